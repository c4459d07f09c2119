/-! rewriting rows: an instruction a row; loop heads stand alone (by program) -/
theorem s_160 {cl : Nat → List Value → aH → aRs} : (∀ ls st H, aGo cl none cd_160 3 0 ls st H = aRLoad (fun st => aGo cl none cd_160 3 1 ls st H) ls 0 st) ∧
  (∀ ls st H, aGo cl none cd_160 3 1 ls st H = aGet (fun st => aGo cl none cd_160 3 4 ls st H) 8 0 H st) ∧
  (∀ ls st H, aGo cl none cd_160 3 4 ls st H = aGo cl none cd_160 3 5 ls (.int 0 :: st) H) ∧
  (∀ ls st H, aGo cl none cd_160 3 5 ls st H = aDup2 (fun st => aGo cl none cd_160 3 6 ls st H) st) ∧
  (∀ ls st H, aGo cl none cd_160 3 6 ls st H = aIald (fun st => aGo cl none cd_160 3 7 ls st H) none H st) ∧
  (∀ ls st H, aGo cl none cd_160 3 7 ls st H = aGo cl none cd_160 3 8 ls (.int 1 :: st) H) ∧
  (∀ ls st H, aGo cl none cd_160 3 8 ls st H = aBin (fun st => aGo cl none cd_160 3 9 ls st H) (fun x y => x + y) st) ∧
  (∀ ls st H, aGo cl none cd_160 3 9 ls st H = aIast (fun st H => aGo cl none cd_160 3 10 ls st H) H st) ∧
  (∀ ls st H, aGo cl none cd_160 3 10 ls st H = aGo cl none cd_160 3 11 ls (.int 0 :: st) H) ∧
  (∀ ls st H, aGo cl none cd_160 3 11 ls st H = aIStore (fun ls st => aGo cl none cd_160 3 12 ls st H) ls 1 st) ∧
  (∀ ls st H, aGo cl none cd_160 3 13 ls st H = aRLoad (fun st => aGo cl none cd_160 3 14 ls st H) ls 0 st) ∧
  (∀ ls st H, aGo cl none cd_160 3 14 ls st H = aGet (fun st => aGo cl none cd_160 3 17 ls st H) 8 0 H st) ∧
  (∀ ls st H, aGo cl none cd_160 3 17 ls st H = aGo cl none cd_160 3 19 ls (.int 7 :: st) H) ∧
  (∀ ls st H, aGo cl none cd_160 3 19 ls st H = aIald (fun st => aGo cl none cd_160 3 20 ls st H) none H st) ∧
  (∀ ls st H, aGo cl none cd_160 3 20 ls st H = aIc (fun p st => aGo cl none cd_160 3 p ls st H) .ge 49 23 st) ∧
  (∀ ls st H, aGo cl none cd_160 3 23 ls st H = aRLoad (fun st => aGo cl none cd_160 3 24 ls st H) ls 0 st) ∧
  (∀ ls st H, aGo cl none cd_160 3 24 ls st H = aILoad (fun st => aGo cl none cd_160 3 25 ls st H) ls 1 st) ∧
  (∀ ls st H, aGo cl none cd_160 3 25 ls st H = aGo cl none cd_160 3 26 ls (.int 2 :: st) H) ∧
  (∀ ls st H, aGo cl none cd_160 3 26 ls st H = aRLoad (fun st => aGo cl none cd_160 3 27 ls st H) ls 0 st) ∧
  (∀ ls st H, aGo cl none cd_160 3 27 ls st H = aILoad (fun st => aGo cl none cd_160 3 28 ls st H) ls 1 st) ∧
  (∀ ls st H, aGo cl none cd_160 3 28 ls st H = aGo cl none cd_160 3 29 ls (.int 2 :: st) H) ∧
  (∀ ls st H, aGo cl none cd_160 3 29 ls st H = aCallV (fun st H => aGo cl none cd_160 3 32 ls st H) cl 124 2 8 H st) ∧
  (∀ ls st H, aGo cl none cd_160 3 32 ls st H = aGo cl none cd_160 3 33 ls (.int 4 :: st) H) ∧
  (∀ ls st H, aGo cl none cd_160 3 33 ls st H = aBin (fun st => aGo cl none cd_160 3 34 ls st H) (fun x y => x + y) st) ∧
  (∀ ls st H, aGo cl none cd_160 3 34 ls st H = aGo cl none cd_160 3 35 ls (.int 0 :: st) H) ∧
  (∀ ls st H, aGo cl none cd_160 3 35 ls st H = aGo cl none cd_160 3 37 ls (.int 99 :: st) H) ∧
  (∀ ls st H, aGo cl none cd_160 3 37 ls st H = aCallI (fun st H => aGo cl none cd_160 3 40 ls st H) cl 118 3 H st) ∧
  (∀ ls st H, aGo cl none cd_160 3 40 ls st H = aCallV (fun st H => aGo cl none cd_160 3 43 ls st H) cl 125 3 8 H st) ∧
  (∀ ls st H, aGo cl none cd_160 3 43 ls st H = aInc (fun ls => aGo cl none cd_160 3 46 ls st H) ls 1 1) ∧
  (∀ ls st H, aGo cl none cd_160 3 46 ls st H = aGo cl none cd_160 3 12 ls st H) ∧
  (∀ ls st H, aGo cl none cd_160 3 49 ls st H = aGo cl none cd_160 3 50 ls (.int 0 :: st) H) ∧
  (∀ ls st H, aGo cl none cd_160 3 50 ls st H = aIStore (fun ls st => aGo cl none cd_160 3 51 ls st H) ls 1 st) ∧
  (∀ ls st H, aGo cl none cd_160 3 52 ls st H = aRLoad (fun st => aGo cl none cd_160 3 53 ls st H) ls 0 st) ∧
  (∀ ls st H, aGo cl none cd_160 3 53 ls st H = aGet (fun st => aGo cl none cd_160 3 56 ls st H) 8 0 H st) ∧
  (∀ ls st H, aGo cl none cd_160 3 56 ls st H = aGo cl none cd_160 3 58 ls (.int 8 :: st) H) ∧
  (∀ ls st H, aGo cl none cd_160 3 58 ls st H = aIald (fun st => aGo cl none cd_160 3 59 ls st H) none H st) ∧
  (∀ ls st H, aGo cl none cd_160 3 59 ls st H = aIc (fun p st => aGo cl none cd_160 3 p ls st H) .ge 117 62 st) ∧
  (∀ ls st H, aGo cl none cd_160 3 62 ls st H = aRLoad (fun st => aGo cl none cd_160 3 63 ls st H) ls 0 st) ∧
  (∀ ls st H, aGo cl none cd_160 3 63 ls st H = aGet (fun st => aGo cl none cd_160 3 66 ls st H) 8 0 H st) ∧
  (∀ ls st H, aGo cl none cd_160 3 66 ls st H = aGo cl none cd_160 3 67 ls (.int 0 :: st) H) ∧
  (∀ ls st H, aGo cl none cd_160 3 67 ls st H = aIald (fun st => aGo cl none cd_160 3 68 ls st H) none H st) ∧
  (∀ ls st H, aGo cl none cd_160 3 68 ls st H = aGo cl none cd_160 3 70 ls (.int 8 :: st) H) ∧
  (∀ ls st H, aGo cl none cd_160 3 70 ls st H = aRem (fun st => aGo cl none cd_160 3 71 ls st H) st) ∧
  (∀ ls st H, aGo cl none cd_160 3 71 ls st H = aIf (fun p st => aGo cl none cd_160 3 p ls st H) .ne 117 74 st) ∧
  (∀ ls st H, aGo cl none cd_160 3 74 ls st H = aRLoad (fun st => aGo cl none cd_160 3 75 ls st H) ls 0 st) ∧
  (∀ ls st H, aGo cl none cd_160 3 75 ls st H = aILoad (fun st => aGo cl none cd_160 3 76 ls st H) ls 1 st) ∧
  (∀ ls st H, aGo cl none cd_160 3 76 ls st H = aGo cl none cd_160 3 77 ls (.int 3 :: st) H) ∧
  (∀ ls st H, aGo cl none cd_160 3 77 ls st H = aRLoad (fun st => aGo cl none cd_160 3 78 ls st H) ls 0 st) ∧
  (∀ ls st H, aGo cl none cd_160 3 78 ls st H = aILoad (fun st => aGo cl none cd_160 3 79 ls st H) ls 1 st) ∧
  (∀ ls st H, aGo cl none cd_160 3 79 ls st H = aCallV (fun st H => aGo cl none cd_160 3 82 ls st H) cl 129 1 8 H st) ∧
  (∀ ls st H, aGo cl none cd_160 3 82 ls st H = aIf (fun p st => aGo cl none cd_160 3 p ls st H) .eq 102 85 st) ∧
  (∀ ls st H, aGo cl none cd_160 3 85 ls st H = aRLoad (fun st => aGo cl none cd_160 3 86 ls st H) ls 0 st) ∧
  (∀ ls st H, aGo cl none cd_160 3 86 ls st H = aILoad (fun st => aGo cl none cd_160 3 87 ls st H) ls 1 st) ∧
  (∀ ls st H, aGo cl none cd_160 3 87 ls st H = aGo cl none cd_160 3 88 ls (.int 3 :: st) H) ∧
  (∀ ls st H, aGo cl none cd_160 3 88 ls st H = aCallV (fun st H => aGo cl none cd_160 3 91 ls st H) cl 126 2 8 H st) ∧
  (∀ ls st H, aGo cl none cd_160 3 91 ls st H = aGo cl none cd_160 3 92 ls (.int 1 :: st) H) ∧
  (∀ ls st H, aGo cl none cd_160 3 92 ls st H = aBin (fun st => aGo cl none cd_160 3 93 ls st H) (fun x y => x + y) st) ∧
  (∀ ls st H, aGo cl none cd_160 3 93 ls st H = aGo cl none cd_160 3 94 ls (.int 0 :: st) H) ∧
  (∀ ls st H, aGo cl none cd_160 3 94 ls st H = aGo cl none cd_160 3 96 ls (.int 9 :: st) H) ∧
  (∀ ls st H, aGo cl none cd_160 3 96 ls st H = aCallI (fun st H => aGo cl none cd_160 3 99 ls st H) cl 118 3 H st) ∧
  (∀ ls st H, aGo cl none cd_160 3 99 ls st H = aGo cl none cd_160 3 108 ls st H) ∧
  (∀ ls st H, aGo cl none cd_160 3 102 ls st H = aRLoad (fun st => aGo cl none cd_160 3 103 ls st H) ls 0 st) ∧
  (∀ ls st H, aGo cl none cd_160 3 103 ls st H = aILoad (fun st => aGo cl none cd_160 3 104 ls st H) ls 1 st) ∧
  (∀ ls st H, aGo cl none cd_160 3 104 ls st H = aGo cl none cd_160 3 105 ls (.int 3 :: st) H) ∧
  (∀ ls st H, aGo cl none cd_160 3 105 ls st H = aCallV (fun st H => aGo cl none cd_160 3 108 ls st H) cl 126 2 8 H st) ∧
  (∀ ls st H, aGo cl none cd_160 3 108 ls st H = aCallV (fun st H => aGo cl none cd_160 3 111 ls st H) cl 127 3 8 H st) ∧
  (∀ ls st H, aGo cl none cd_160 3 111 ls st H = aInc (fun ls => aGo cl none cd_160 3 114 ls st H) ls 1 1) ∧
  (∀ ls st H, aGo cl none cd_160 3 114 ls st H = aGo cl none cd_160 3 51 ls st H) ∧
  (∀ ls st H, aGo cl none cd_160 3 117 ls st H = aVret 3 st H) :=
  ⟨fun _ _ _ => (aGo_s rfl).trans rfl, fun _ _ _ => (aGo_s rfl).trans rfl, fun _ _ _ => (aGo_s rfl).trans rfl, fun _ _ _ => (aGo_s rfl).trans rfl, fun _ _ _ => (aGo_s rfl).trans rfl, fun _ _ _ => (aGo_s rfl).trans rfl, fun _ _ _ => (aGo_s rfl).trans rfl, fun _ _ _ => (aGo_s rfl).trans rfl, fun _ _ _ => (aGo_s rfl).trans rfl, fun _ _ _ => (aGo_s rfl).trans rfl, fun _ _ _ => (aGo_s rfl).trans rfl, fun _ _ _ => (aGo_s rfl).trans rfl, fun _ _ _ => (aGo_s rfl).trans rfl, fun _ _ _ => (aGo_s rfl).trans rfl, fun _ _ _ => (aGo_s rfl).trans rfl, fun _ _ _ => (aGo_s rfl).trans rfl, fun _ _ _ => (aGo_s rfl).trans rfl, fun _ _ _ => (aGo_s rfl).trans rfl, fun _ _ _ => (aGo_s rfl).trans rfl, fun _ _ _ => (aGo_s rfl).trans rfl, fun _ _ _ => (aGo_s rfl).trans rfl, fun _ _ _ => (aGo_s rfl).trans rfl, fun _ _ _ => (aGo_s rfl).trans rfl, fun _ _ _ => (aGo_s rfl).trans rfl, fun _ _ _ => (aGo_s rfl).trans rfl, fun _ _ _ => (aGo_s rfl).trans rfl, fun _ _ _ => (aGo_s rfl).trans rfl, fun _ _ _ => (aGo_s rfl).trans rfl, fun _ _ _ => (aGo_s rfl).trans rfl, fun _ _ _ => (aGo_s rfl).trans rfl, fun _ _ _ => (aGo_s rfl).trans rfl, fun _ _ _ => (aGo_s rfl).trans rfl, fun _ _ _ => (aGo_s rfl).trans rfl, fun _ _ _ => (aGo_s rfl).trans rfl, fun _ _ _ => (aGo_s rfl).trans rfl, fun _ _ _ => (aGo_s rfl).trans rfl, fun _ _ _ => (aGo_s rfl).trans rfl, fun _ _ _ => (aGo_s rfl).trans rfl, fun _ _ _ => (aGo_s rfl).trans rfl, fun _ _ _ => (aGo_s rfl).trans rfl, fun _ _ _ => (aGo_s rfl).trans rfl, fun _ _ _ => (aGo_s rfl).trans rfl, fun _ _ _ => (aGo_s rfl).trans rfl, fun _ _ _ => (aGo_s rfl).trans rfl, fun _ _ _ => (aGo_s rfl).trans rfl, fun _ _ _ => (aGo_s rfl).trans rfl, fun _ _ _ => (aGo_s rfl).trans rfl, fun _ _ _ => (aGo_s rfl).trans rfl, fun _ _ _ => (aGo_s rfl).trans rfl, fun _ _ _ => (aGo_s rfl).trans rfl, fun _ _ _ => (aGo_s rfl).trans rfl, fun _ _ _ => (aGo_s rfl).trans rfl, fun _ _ _ => (aGo_s rfl).trans rfl, fun _ _ _ => (aGo_s rfl).trans rfl, fun _ _ _ => (aGo_s rfl).trans rfl, fun _ _ _ => (aGo_s rfl).trans rfl, fun _ _ _ => (aGo_s rfl).trans rfl, fun _ _ _ => (aGo_s rfl).trans rfl, fun _ _ _ => (aGo_s rfl).trans rfl, fun _ _ _ => (aGo_s rfl).trans rfl, fun _ _ _ => (aGo_s rfl).trans rfl, fun _ _ _ => (aGo_s rfl).trans rfl, fun _ _ _ => (aGo_s rfl).trans rfl, fun _ _ _ => (aGo_s rfl).trans rfl, fun _ _ _ => (aGo_s rfl).trans rfl, fun _ _ _ => (aGo_s rfl).trans rfl, fun _ _ _ => (aGo_s rfl).trans rfl, fun _ _ _ => (aGo_s rfl).trans rfl, fun _ _ _ => (aGo_s rfl).trans rfl⟩
theorem s_160_12 {cl : Nat → List Value → aH → aRs} : ∀ ls st H, aGo cl none cd_160 3 12 ls st H = aILoad (fun st => aGo cl none cd_160 3 13 ls st H) ls 1 st := fun _ _ _ => (aGo_s rfl).trans rfl
theorem s_160_51 {cl : Nat → List Value → aH → aRs} : ∀ ls st H, aGo cl none cd_160 3 51 ls st H = aILoad (fun st => aGo cl none cd_160 3 52 ls st H) ls 1 st := fun _ _ _ => (aGo_s rfl).trans rfl
theorem e_160 {d : Nat} {x0 : Nat} {H : aH} : aCall aMt (d + 1) 160 [.ref x0] H = aGo (aCall aMt d) none cd_160 3 0 [some (.ref x0), none] [] H := (c_0 rfl ⟨rfl, Nat.le_of_ble_eq_true rfl, Nat.le_of_ble_eq_true rfl⟩).trans rfl
theorem s_161 {cl : Nat → List Value → aH → aRs} : (∀ ls st H, aGo cl none cd_161 0 0 ls st H = aRLoad (fun st => aGo cl none cd_161 0 1 ls st H) ls 0 st) ∧
  (∀ ls st H, aGo cl none cd_161 0 1 ls st H = aGet (fun st => aGo cl none cd_161 0 4 ls st H) 8 0 H st) ∧
  (∀ ls st H, aGo cl none cd_161 0 4 ls st H = aGo cl none cd_161 0 5 ls (.int 4 :: st) H) ∧
  (∀ ls st H, aGo cl none cd_161 0 5 ls st H = aRLoad (fun st => aGo cl none cd_161 0 6 ls st H) ls 0 st) ∧
  (∀ ls st H, aGo cl none cd_161 0 6 ls st H = aGet (fun st => aGo cl none cd_161 0 9 ls st H) 8 0 H st) ∧
  (∀ ls st H, aGo cl none cd_161 0 9 ls st H = aGo cl none cd_161 0 10 ls (.int 4 :: st) H) ∧
  (∀ ls st H, aGo cl none cd_161 0 10 ls st H = aIald (fun st => aGo cl none cd_161 0 11 ls st H) none H st) ∧
  (∀ ls st H, aGo cl none cd_161 0 11 ls st H = aGo cl none cd_161 0 13 ls (.int 1103515245 :: st) H) ∧
  (∀ ls st H, aGo cl none cd_161 0 13 ls st H = aBin (fun st => aGo cl none cd_161 0 14 ls st H) (fun x y => x * y) st) ∧
  (∀ ls st H, aGo cl none cd_161 0 14 ls st H = aGo cl none cd_161 0 17 ls (.int 12345 :: st) H) ∧
  (∀ ls st H, aGo cl none cd_161 0 17 ls st H = aBin (fun st => aGo cl none cd_161 0 18 ls st H) (fun x y => x + y) st) ∧
  (∀ ls st H, aGo cl none cd_161 0 18 ls st H = aIast (fun st H => aGo cl none cd_161 0 19 ls st H) H st) ∧
  (∀ ls st H, aGo cl none cd_161 0 19 ls st H = aRLoad (fun st => aGo cl none cd_161 0 20 ls st H) ls 0 st) ∧
  (∀ ls st H, aGo cl none cd_161 0 20 ls st H = aGet (fun st => aGo cl none cd_161 0 23 ls st H) 8 0 H st) ∧
  (∀ ls st H, aGo cl none cd_161 0 23 ls st H = aGo cl none cd_161 0 24 ls (.int 4 :: st) H) ∧
  (∀ ls st H, aGo cl none cd_161 0 24 ls st H = aIald (fun st => aGo cl none cd_161 0 25 ls st H) none H st) ∧
  (∀ ls st H, aGo cl none cd_161 0 25 ls st H = aGo cl none cd_161 0 27 ls (.int 8 :: st) H) ∧
  (∀ ls st H, aGo cl none cd_161 0 27 ls st H = aBin (fun st => aGo cl none cd_161 0 28 ls st H) (fun x y => (x.toUInt32 >>> (y.toUInt32 &&& Int32.toUInt32 31)).toInt32) st) ∧
  (∀ ls st H, aGo cl none cd_161 0 28 ls st H = aIret 0 st H) :=
  ⟨fun _ _ _ => (aGo_s rfl).trans rfl, fun _ _ _ => (aGo_s rfl).trans rfl, fun _ _ _ => (aGo_s rfl).trans rfl, fun _ _ _ => (aGo_s rfl).trans rfl, fun _ _ _ => (aGo_s rfl).trans rfl, fun _ _ _ => (aGo_s rfl).trans rfl, fun _ _ _ => (aGo_s rfl).trans rfl, fun _ _ _ => (aGo_s rfl).trans rfl, fun _ _ _ => (aGo_s rfl).trans rfl, fun _ _ _ => (aGo_s rfl).trans rfl, fun _ _ _ => (aGo_s rfl).trans rfl, fun _ _ _ => (aGo_s rfl).trans rfl, fun _ _ _ => (aGo_s rfl).trans rfl, fun _ _ _ => (aGo_s rfl).trans rfl, fun _ _ _ => (aGo_s rfl).trans rfl, fun _ _ _ => (aGo_s rfl).trans rfl, fun _ _ _ => (aGo_s rfl).trans rfl, fun _ _ _ => (aGo_s rfl).trans rfl, fun _ _ _ => (aGo_s rfl).trans rfl⟩
theorem e_161 {d : Nat} {x0 : Nat} {H : aH} : aCall aMt (d + 1) 161 [.ref x0] H = aGo (aCall aMt d) none cd_161 0 0 [some (.ref x0)] [] H := (c_0 rfl ⟨rfl, Nat.le_of_ble_eq_true rfl, Nat.le_of_ble_eq_true rfl⟩).trans rfl
theorem s_162 {cl : Nat → List Value → aH → aRs} : (∀ ls st H, aGo cl none cd_162 0 0 ls st H = aGo cl none cd_162 0 1 ls (.int (-1) :: st) H) ∧
  (∀ ls st H, aGo cl none cd_162 0 1 ls st H = aIStore (fun ls st => aGo cl none cd_162 0 2 ls st H) ls 1 st) ∧
  (∀ ls st H, aGo cl none cd_162 0 2 ls st H = aRLoad (fun st => aGo cl none cd_162 0 3 ls st H) ls 0 st) ∧
  (∀ ls st H, aGo cl none cd_162 0 3 ls st H = aGet (fun st => aGo cl none cd_162 0 6 ls st H) 8 0 H st) ∧
  (∀ ls st H, aGo cl none cd_162 0 6 ls st H = aGo cl none cd_162 0 8 ls (.int 7 :: st) H) ∧
  (∀ ls st H, aGo cl none cd_162 0 8 ls st H = aIald (fun st => aGo cl none cd_162 0 9 ls st H) none H st) ∧
  (∀ ls st H, aGo cl none cd_162 0 9 ls st H = aIf (fun p st => aGo cl none cd_162 0 p ls st H) .le 37 12 st) ∧
  (∀ ls st H, aGo cl none cd_162 0 12 ls st H = aRLoad (fun st => aGo cl none cd_162 0 13 ls st H) ls 0 st) ∧
  (∀ ls st H, aGo cl none cd_162 0 13 ls st H = aCallV (fun st H => aGo cl none cd_162 0 16 ls st H) cl 161 0 8 H st) ∧
  (∀ ls st H, aGo cl none cd_162 0 16 ls st H = aRLoad (fun st => aGo cl none cd_162 0 17 ls st H) ls 0 st) ∧
  (∀ ls st H, aGo cl none cd_162 0 17 ls st H = aGet (fun st => aGo cl none cd_162 0 20 ls st H) 8 0 H st) ∧
  (∀ ls st H, aGo cl none cd_162 0 20 ls st H = aGo cl none cd_162 0 22 ls (.int 7 :: st) H) ∧
  (∀ ls st H, aGo cl none cd_162 0 22 ls st H = aIald (fun st => aGo cl none cd_162 0 23 ls st H) none H st) ∧
  (∀ ls st H, aGo cl none cd_162 0 23 ls st H = aRem (fun st => aGo cl none cd_162 0 24 ls st H) st) ∧
  (∀ ls st H, aGo cl none cd_162 0 24 ls st H = aIStore (fun ls st => aGo cl none cd_162 0 25 ls st H) ls 2 st) ∧
  (∀ ls st H, aGo cl none cd_162 0 25 ls st H = aRLoad (fun st => aGo cl none cd_162 0 26 ls st H) ls 0 st) ∧
  (∀ ls st H, aGo cl none cd_162 0 26 ls st H = aILoad (fun st => aGo cl none cd_162 0 27 ls st H) ls 2 st) ∧
  (∀ ls st H, aGo cl none cd_162 0 27 ls st H = aRLoad (fun st => aGo cl none cd_162 0 28 ls st H) ls 0 st) ∧
  (∀ ls st H, aGo cl none cd_162 0 28 ls st H = aCallV (fun st H => aGo cl none cd_162 0 31 ls st H) cl 161 0 8 H st) ∧
  (∀ ls st H, aGo cl none cd_162 0 31 ls st H = aGo cl none cd_162 0 32 ls (.int 2 :: st) H) ∧
  (∀ ls st H, aGo cl none cd_162 0 32 ls st H = aRem (fun st => aGo cl none cd_162 0 33 ls st H) st) ∧
  (∀ ls st H, aGo cl none cd_162 0 33 ls st H = aCallV (fun st H => aGo cl none cd_162 0 36 ls st H) cl 159 2 8 H st) ∧
  (∀ ls st H, aGo cl none cd_162 0 36 ls st H = aIStore (fun ls st => aGo cl none cd_162 0 37 ls st H) ls 1 st) ∧
  (∀ ls st H, aGo cl none cd_162 0 37 ls st H = aRLoad (fun st => aGo cl none cd_162 0 38 ls st H) ls 0 st) ∧
  (∀ ls st H, aGo cl none cd_162 0 38 ls st H = aCallV (fun st H => aGo cl none cd_162 0 41 ls st H) cl 160 0 8 H st) ∧
  (∀ ls st H, aGo cl none cd_162 0 41 ls st H = aILoad (fun st => aGo cl none cd_162 0 42 ls st H) ls 1 st) ∧
  (∀ ls st H, aGo cl none cd_162 0 42 ls st H = aIret 0 st H) :=
  ⟨fun _ _ _ => (aGo_s rfl).trans rfl, fun _ _ _ => (aGo_s rfl).trans rfl, fun _ _ _ => (aGo_s rfl).trans rfl, fun _ _ _ => (aGo_s rfl).trans rfl, fun _ _ _ => (aGo_s rfl).trans rfl, fun _ _ _ => (aGo_s rfl).trans rfl, fun _ _ _ => (aGo_s rfl).trans rfl, fun _ _ _ => (aGo_s rfl).trans rfl, fun _ _ _ => (aGo_s rfl).trans rfl, fun _ _ _ => (aGo_s rfl).trans rfl, fun _ _ _ => (aGo_s rfl).trans rfl, fun _ _ _ => (aGo_s rfl).trans rfl, fun _ _ _ => (aGo_s rfl).trans rfl, fun _ _ _ => (aGo_s rfl).trans rfl, fun _ _ _ => (aGo_s rfl).trans rfl, fun _ _ _ => (aGo_s rfl).trans rfl, fun _ _ _ => (aGo_s rfl).trans rfl, fun _ _ _ => (aGo_s rfl).trans rfl, fun _ _ _ => (aGo_s rfl).trans rfl, fun _ _ _ => (aGo_s rfl).trans rfl, fun _ _ _ => (aGo_s rfl).trans rfl, fun _ _ _ => (aGo_s rfl).trans rfl, fun _ _ _ => (aGo_s rfl).trans rfl, fun _ _ _ => (aGo_s rfl).trans rfl, fun _ _ _ => (aGo_s rfl).trans rfl, fun _ _ _ => (aGo_s rfl).trans rfl, fun _ _ _ => (aGo_s rfl).trans rfl⟩
theorem e_162 {d : Nat} {x0 : Nat} {H : aH} : aCall aMt (d + 1) 162 [.ref x0] H = aGo (aCall aMt d) none cd_162 0 0 [some (.ref x0), none, none] [] H := (c_0 rfl ⟨rfl, Nat.le_of_ble_eq_true rfl, Nat.le_of_ble_eq_true rfl⟩).trans rfl
theorem s_163 {cl : Nat → List Value → aH → aRs} : (∀ ls st H, aGo cl none cd_163 1 0 ls st H = aILoad (fun st => aGo cl none cd_163 1 1 ls st H) ls 0 st) ∧
  (∀ ls st H, aGo cl none cd_163 1 1 ls st H = aGo cl none cd_163 1 2 ls (.int 0 :: st) H) ∧
  (∀ ls st H, aGo cl none cd_163 1 2 ls st H = aGo cl none cd_163 1 4 ls (.int 69 :: st) H) ∧
  (∀ ls st H, aGo cl none cd_163 1 4 ls st H = aCallI (fun st H => aGo cl none cd_163 1 7 ls st H) cl 117 3 H st) ∧
  (∀ ls st H, aGo cl none cd_163 1 7 ls st H = aIret 1 st H) :=
  ⟨fun _ _ _ => (aGo_s rfl).trans rfl, fun _ _ _ => (aGo_s rfl).trans rfl, fun _ _ _ => (aGo_s rfl).trans rfl, fun _ _ _ => (aGo_s rfl).trans rfl, fun _ _ _ => (aGo_s rfl).trans rfl⟩
theorem e_163 {d : Nat} {x0 : Int32} {H : aH} : aCall aMt (d + 1) 163 [.int x0] H = aGo (aCall aMt d) none cd_163 1 0 [some (.int x0)] [] H := (c_0 rfl ⟨rfl, Nat.le_of_ble_eq_true rfl, Nat.le_of_ble_eq_true rfl⟩).trans rfl
theorem s_164 {cl : Nat → List Value → aH → aRs} : (∀ ls st H, aGo cl none cd_164 0 0 ls st H = aILoad (fun st => aGo cl none cd_164 0 1 ls st H) ls 1 st) ∧
  (∀ ls st H, aGo cl none cd_164 0 1 ls st H = aCallI (fun st H => aGo cl none cd_164 0 4 ls st H) cl 163 1 H st) ∧
  (∀ ls st H, aGo cl none cd_164 0 4 ls st H = aIf (fun p st => aGo cl none cd_164 0 p ls st H) .ne 13 7 st) ∧
  (∀ ls st H, aGo cl none cd_164 0 7 ls st H = aRLoad (fun st => aGo cl none cd_164 0 8 ls st H) ls 0 st) ∧
  (∀ ls st H, aGo cl none cd_164 0 8 ls st H = aGo cl none cd_164 0 9 ls (.int 1 :: st) H) ∧
  (∀ ls st H, aGo cl none cd_164 0 9 ls st H = aCallV (fun st H => aGo cl none cd_164 0 12 ls st H) cl 116 1 8 H st) ∧
  (∀ ls st H, aGo cl none cd_164 0 12 ls st H = aIret 0 st H) ∧
  (∀ ls st H, aGo cl none cd_164 0 13 ls st H = aRLoad (fun st => aGo cl none cd_164 0 14 ls st H) ls 0 st) ∧
  (∀ ls st H, aGo cl none cd_164 0 14 ls st H = aGet (fun st => aGo cl none cd_164 0 17 ls st H) 8 0 H st) ∧
  (∀ ls st H, aGo cl none cd_164 0 17 ls st H = aGo cl none cd_164 0 19 ls (.int 7 :: st) H) ∧
  (∀ ls st H, aGo cl none cd_164 0 19 ls st H = aIald (fun st => aGo cl none cd_164 0 20 ls st H) none H st) ∧
  (∀ ls st H, aGo cl none cd_164 0 20 ls st H = aGo cl none cd_164 0 22 ls (.int 8 :: st) H) ∧
  (∀ ls st H, aGo cl none cd_164 0 22 ls st H = aIc (fun p st => aGo cl none cd_164 0 p ls st H) .ne 31 25 st) ∧
  (∀ ls st H, aGo cl none cd_164 0 25 ls st H = aRLoad (fun st => aGo cl none cd_164 0 26 ls st H) ls 0 st) ∧
  (∀ ls st H, aGo cl none cd_164 0 26 ls st H = aGo cl none cd_164 0 27 ls (.int 4 :: st) H) ∧
  (∀ ls st H, aGo cl none cd_164 0 27 ls st H = aCallV (fun st H => aGo cl none cd_164 0 30 ls st H) cl 116 1 8 H st) ∧
  (∀ ls st H, aGo cl none cd_164 0 30 ls st H = aIret 0 st H) ∧
  (∀ ls st H, aGo cl none cd_164 0 31 ls st H = aRLoad (fun st => aGo cl none cd_164 0 32 ls st H) ls 0 st) ∧
  (∀ ls st H, aGo cl none cd_164 0 32 ls st H = aGet (fun st => aGo cl none cd_164 0 35 ls st H) 8 0 H st) ∧
  (∀ ls st H, aGo cl none cd_164 0 35 ls st H = aGo cl none cd_164 0 37 ls (.int 7 :: st) H) ∧
  (∀ ls st H, aGo cl none cd_164 0 37 ls st H = aIald (fun st => aGo cl none cd_164 0 38 ls st H) none H st) ∧
  (∀ ls st H, aGo cl none cd_164 0 38 ls st H = aIStore (fun ls st => aGo cl none cd_164 0 39 ls st H) ls 2 st) ∧
  (∀ ls st H, aGo cl none cd_164 0 39 ls st H = aRLoad (fun st => aGo cl none cd_164 0 40 ls st H) ls 0 st) ∧
  (∀ ls st H, aGo cl none cd_164 0 40 ls st H = aILoad (fun st => aGo cl none cd_164 0 41 ls st H) ls 2 st) ∧
  (∀ ls st H, aGo cl none cd_164 0 41 ls st H = aGo cl none cd_164 0 42 ls (.int 0 :: st) H) ∧
  (∀ ls st H, aGo cl none cd_164 0 42 ls st H = aILoad (fun st => aGo cl none cd_164 0 43 ls st H) ls 1 st) ∧
  (∀ ls st H, aGo cl none cd_164 0 43 ls st H = aGo cl none cd_164 0 45 ls (.int 10 :: st) H) ∧
  (∀ ls st H, aGo cl none cd_164 0 45 ls st H = aDiv (fun st => aGo cl none cd_164 0 46 ls st H) st) ∧
  (∀ ls st H, aGo cl none cd_164 0 46 ls st H = aCallV (fun st H => aGo cl none cd_164 0 49 ls st H) cl 125 3 8 H st) ∧
  (∀ ls st H, aGo cl none cd_164 0 49 ls st H = aRLoad (fun st => aGo cl none cd_164 0 50 ls st H) ls 0 st) ∧
  (∀ ls st H, aGo cl none cd_164 0 50 ls st H = aILoad (fun st => aGo cl none cd_164 0 51 ls st H) ls 2 st) ∧
  (∀ ls st H, aGo cl none cd_164 0 51 ls st H = aGo cl none cd_164 0 52 ls (.int 1 :: st) H) ∧
  (∀ ls st H, aGo cl none cd_164 0 52 ls st H = aILoad (fun st => aGo cl none cd_164 0 53 ls st H) ls 1 st) ∧
  (∀ ls st H, aGo cl none cd_164 0 53 ls st H = aGo cl none cd_164 0 55 ls (.int 10 :: st) H) ∧
  (∀ ls st H, aGo cl none cd_164 0 55 ls st H = aRem (fun st => aGo cl none cd_164 0 56 ls st H) st) ∧
  (∀ ls st H, aGo cl none cd_164 0 56 ls st H = aCallV (fun st H => aGo cl none cd_164 0 59 ls st H) cl 125 3 8 H st) ∧
  (∀ ls st H, aGo cl none cd_164 0 59 ls st H = aRLoad (fun st => aGo cl none cd_164 0 60 ls st H) ls 0 st) ∧
  (∀ ls st H, aGo cl none cd_164 0 60 ls st H = aILoad (fun st => aGo cl none cd_164 0 61 ls st H) ls 2 st) ∧
  (∀ ls st H, aGo cl none cd_164 0 61 ls st H = aGo cl none cd_164 0 62 ls (.int 2 :: st) H) ∧
  (∀ ls st H, aGo cl none cd_164 0 62 ls st H = aGo cl none cd_164 0 64 ls (.int 10 :: st) H) ∧
  (∀ ls st H, aGo cl none cd_164 0 64 ls st H = aCallV (fun st H => aGo cl none cd_164 0 67 ls st H) cl 125 3 8 H st) ∧
  (∀ ls st H, aGo cl none cd_164 0 67 ls st H = aRLoad (fun st => aGo cl none cd_164 0 68 ls st H) ls 0 st) ∧
  (∀ ls st H, aGo cl none cd_164 0 68 ls st H = aILoad (fun st => aGo cl none cd_164 0 69 ls st H) ls 2 st) ∧
  (∀ ls st H, aGo cl none cd_164 0 69 ls st H = aGo cl none cd_164 0 70 ls (.int 3 :: st) H) ∧
  (∀ ls st H, aGo cl none cd_164 0 70 ls st H = aGo cl none cd_164 0 71 ls (.int 0 :: st) H) ∧
  (∀ ls st H, aGo cl none cd_164 0 71 ls st H = aCallV (fun st H => aGo cl none cd_164 0 74 ls st H) cl 125 3 8 H st) ∧
  (∀ ls st H, aGo cl none cd_164 0 74 ls st H = aRLoad (fun st => aGo cl none cd_164 0 75 ls st H) ls 0 st) ∧
  (∀ ls st H, aGo cl none cd_164 0 75 ls st H = aILoad (fun st => aGo cl none cd_164 0 76 ls st H) ls 2 st) ∧
  (∀ ls st H, aGo cl none cd_164 0 76 ls st H = aGo cl none cd_164 0 77 ls (.int 4 :: st) H) ∧
  (∀ ls st H, aGo cl none cd_164 0 77 ls st H = aGo cl none cd_164 0 78 ls (.int (-1) :: st) H) ∧
  (∀ ls st H, aGo cl none cd_164 0 78 ls st H = aCallV (fun st H => aGo cl none cd_164 0 81 ls st H) cl 125 3 8 H st) ∧
  (∀ ls st H, aGo cl none cd_164 0 81 ls st H = aRLoad (fun st => aGo cl none cd_164 0 82 ls st H) ls 0 st) ∧
  (∀ ls st H, aGo cl none cd_164 0 82 ls st H = aGet (fun st => aGo cl none cd_164 0 85 ls st H) 8 0 H st) ∧
  (∀ ls st H, aGo cl none cd_164 0 85 ls st H = aGo cl none cd_164 0 87 ls (.int 7 :: st) H) ∧
  (∀ ls st H, aGo cl none cd_164 0 87 ls st H = aDup2 (fun st => aGo cl none cd_164 0 88 ls st H) st) ∧
  (∀ ls st H, aGo cl none cd_164 0 88 ls st H = aIald (fun st => aGo cl none cd_164 0 89 ls st H) none H st) ∧
  (∀ ls st H, aGo cl none cd_164 0 89 ls st H = aGo cl none cd_164 0 90 ls (.int 1 :: st) H) ∧
  (∀ ls st H, aGo cl none cd_164 0 90 ls st H = aBin (fun st => aGo cl none cd_164 0 91 ls st H) (fun x y => x + y) st) ∧
  (∀ ls st H, aGo cl none cd_164 0 91 ls st H = aIast (fun st H => aGo cl none cd_164 0 92 ls st H) H st) ∧
  (∀ ls st H, aGo cl none cd_164 0 92 ls st H = aILoad (fun st => aGo cl none cd_164 0 93 ls st H) ls 2 st) ∧
  (∀ ls st H, aGo cl none cd_164 0 93 ls st H = aIret 0 st H) :=
  ⟨fun _ _ _ => (aGo_s rfl).trans rfl, fun _ _ _ => (aGo_s rfl).trans rfl, fun _ _ _ => (aGo_s rfl).trans rfl, fun _ _ _ => (aGo_s rfl).trans rfl, fun _ _ _ => (aGo_s rfl).trans rfl, fun _ _ _ => (aGo_s rfl).trans rfl, fun _ _ _ => (aGo_s rfl).trans rfl, fun _ _ _ => (aGo_s rfl).trans rfl, fun _ _ _ => (aGo_s rfl).trans rfl, fun _ _ _ => (aGo_s rfl).trans rfl, fun _ _ _ => (aGo_s rfl).trans rfl, fun _ _ _ => (aGo_s rfl).trans rfl, fun _ _ _ => (aGo_s rfl).trans rfl, fun _ _ _ => (aGo_s rfl).trans rfl, fun _ _ _ => (aGo_s rfl).trans rfl, fun _ _ _ => (aGo_s rfl).trans rfl, fun _ _ _ => (aGo_s rfl).trans rfl, fun _ _ _ => (aGo_s rfl).trans rfl, fun _ _ _ => (aGo_s rfl).trans rfl, fun _ _ _ => (aGo_s rfl).trans rfl, fun _ _ _ => (aGo_s rfl).trans rfl, fun _ _ _ => (aGo_s rfl).trans rfl, fun _ _ _ => (aGo_s rfl).trans rfl, fun _ _ _ => (aGo_s rfl).trans rfl, fun _ _ _ => (aGo_s rfl).trans rfl, fun _ _ _ => (aGo_s rfl).trans rfl, fun _ _ _ => (aGo_s rfl).trans rfl, fun _ _ _ => (aGo_s rfl).trans rfl, fun _ _ _ => (aGo_s rfl).trans rfl, fun _ _ _ => (aGo_s rfl).trans rfl, fun _ _ _ => (aGo_s rfl).trans rfl, fun _ _ _ => (aGo_s rfl).trans rfl, fun _ _ _ => (aGo_s rfl).trans rfl, fun _ _ _ => (aGo_s rfl).trans rfl, fun _ _ _ => (aGo_s rfl).trans rfl, fun _ _ _ => (aGo_s rfl).trans rfl, fun _ _ _ => (aGo_s rfl).trans rfl, fun _ _ _ => (aGo_s rfl).trans rfl, fun _ _ _ => (aGo_s rfl).trans rfl, fun _ _ _ => (aGo_s rfl).trans rfl, fun _ _ _ => (aGo_s rfl).trans rfl, fun _ _ _ => (aGo_s rfl).trans rfl, fun _ _ _ => (aGo_s rfl).trans rfl, fun _ _ _ => (aGo_s rfl).trans rfl, fun _ _ _ => (aGo_s rfl).trans rfl, fun _ _ _ => (aGo_s rfl).trans rfl, fun _ _ _ => (aGo_s rfl).trans rfl, fun _ _ _ => (aGo_s rfl).trans rfl, fun _ _ _ => (aGo_s rfl).trans rfl, fun _ _ _ => (aGo_s rfl).trans rfl, fun _ _ _ => (aGo_s rfl).trans rfl, fun _ _ _ => (aGo_s rfl).trans rfl, fun _ _ _ => (aGo_s rfl).trans rfl, fun _ _ _ => (aGo_s rfl).trans rfl, fun _ _ _ => (aGo_s rfl).trans rfl, fun _ _ _ => (aGo_s rfl).trans rfl, fun _ _ _ => (aGo_s rfl).trans rfl, fun _ _ _ => (aGo_s rfl).trans rfl, fun _ _ _ => (aGo_s rfl).trans rfl, fun _ _ _ => (aGo_s rfl).trans rfl, fun _ _ _ => (aGo_s rfl).trans rfl⟩
theorem e_164 {d : Nat} {x0 : Nat} {x1 : Int32} {H : aH} : aCall aMt (d + 1) 164 [.ref x0, .int x1] H = aGo (aCall aMt d) none cd_164 0 0 [some (.ref x0), some (.int x1), none] [] H := (c_0 rfl ⟨rfl, Nat.le_of_ble_eq_true rfl, Nat.le_of_ble_eq_true rfl⟩).trans rfl
theorem s_165 {cl : Nat → List Value → aH → aRs} : (∀ ls st H, aGo cl none cd_165 0 0 ls st H = aGo cl none cd_165 0 1 ls (.int 0 :: st) H) ∧
  (∀ ls st H, aGo cl none cd_165 0 1 ls st H = aIStore (fun ls st => aGo cl none cd_165 0 2 ls st H) ls 2 st) ∧
  (∀ ls st H, aGo cl none cd_165 0 2 ls st H = aGo cl none cd_165 0 3 ls (.int 0 :: st) H) ∧
  (∀ ls st H, aGo cl none cd_165 0 3 ls st H = aIStore (fun ls st => aGo cl none cd_165 0 4 ls st H) ls 3 st) ∧
  (∀ ls st H, aGo cl none cd_165 0 5 ls st H = aRLoad (fun st => aGo cl none cd_165 0 6 ls st H) ls 0 st) ∧
  (∀ ls st H, aGo cl none cd_165 0 6 ls st H = aGet (fun st => aGo cl none cd_165 0 9 ls st H) 8 0 H st) ∧
  (∀ ls st H, aGo cl none cd_165 0 9 ls st H = aGo cl none cd_165 0 11 ls (.int 8 :: st) H) ∧
  (∀ ls st H, aGo cl none cd_165 0 11 ls st H = aIald (fun st => aGo cl none cd_165 0 12 ls st H) none H st) ∧
  (∀ ls st H, aGo cl none cd_165 0 12 ls st H = aIc (fun p st => aGo cl none cd_165 0 p ls st H) .ge 47 15 st) ∧
  (∀ ls st H, aGo cl none cd_165 0 15 ls st H = aILoad (fun st => aGo cl none cd_165 0 16 ls st H) ls 2 st) ∧
  (∀ ls st H, aGo cl none cd_165 0 16 ls st H = aRLoad (fun st => aGo cl none cd_165 0 17 ls st H) ls 0 st) ∧
  (∀ ls st H, aGo cl none cd_165 0 17 ls st H = aILoad (fun st => aGo cl none cd_165 0 18 ls st H) ls 3 st) ∧
  (∀ ls st H, aGo cl none cd_165 0 18 ls st H = aCallV (fun st H => aGo cl none cd_165 0 21 ls st H) cl 129 1 8 H st) ∧
  (∀ ls st H, aGo cl none cd_165 0 21 ls st H = aIf (fun p st => aGo cl none cd_165 0 p ls st H) .eq 38 24 st) ∧
  (∀ ls st H, aGo cl none cd_165 0 24 ls st H = aRLoad (fun st => aGo cl none cd_165 0 25 ls st H) ls 0 st) ∧
  (∀ ls st H, aGo cl none cd_165 0 25 ls st H = aILoad (fun st => aGo cl none cd_165 0 26 ls st H) ls 3 st) ∧
  (∀ ls st H, aGo cl none cd_165 0 26 ls st H = aGo cl none cd_165 0 27 ls (.int 0 :: st) H) ∧
  (∀ ls st H, aGo cl none cd_165 0 27 ls st H = aCallV (fun st H => aGo cl none cd_165 0 30 ls st H) cl 126 2 8 H st) ∧
  (∀ ls st H, aGo cl none cd_165 0 30 ls st H = aILoad (fun st => aGo cl none cd_165 0 31 ls st H) ls 1 st) ∧
  (∀ ls st H, aGo cl none cd_165 0 31 ls st H = aIc (fun p st => aGo cl none cd_165 0 p ls st H) .ne 38 34 st) ∧
  (∀ ls st H, aGo cl none cd_165 0 34 ls st H = aGo cl none cd_165 0 35 ls (.int 1 :: st) H) ∧
  (∀ ls st H, aGo cl none cd_165 0 35 ls st H = aGo cl none cd_165 0 39 ls st H) ∧
  (∀ ls st H, aGo cl none cd_165 0 38 ls st H = aGo cl none cd_165 0 39 ls (.int 0 :: st) H) ∧
  (∀ ls st H, aGo cl none cd_165 0 39 ls st H = aBin (fun st => aGo cl none cd_165 0 40 ls st H) (fun x y => x + y) st) ∧
  (∀ ls st H, aGo cl none cd_165 0 40 ls st H = aIStore (fun ls st => aGo cl none cd_165 0 41 ls st H) ls 2 st) ∧
  (∀ ls st H, aGo cl none cd_165 0 41 ls st H = aInc (fun ls => aGo cl none cd_165 0 44 ls st H) ls 3 1) ∧
  (∀ ls st H, aGo cl none cd_165 0 44 ls st H = aGo cl none cd_165 0 4 ls st H) ∧
  (∀ ls st H, aGo cl none cd_165 0 47 ls st H = aILoad (fun st => aGo cl none cd_165 0 48 ls st H) ls 2 st) ∧
  (∀ ls st H, aGo cl none cd_165 0 48 ls st H = aIret 0 st H) :=
  ⟨fun _ _ _ => (aGo_s rfl).trans rfl, fun _ _ _ => (aGo_s rfl).trans rfl, fun _ _ _ => (aGo_s rfl).trans rfl, fun _ _ _ => (aGo_s rfl).trans rfl, fun _ _ _ => (aGo_s rfl).trans rfl, fun _ _ _ => (aGo_s rfl).trans rfl, fun _ _ _ => (aGo_s rfl).trans rfl, fun _ _ _ => (aGo_s rfl).trans rfl, fun _ _ _ => (aGo_s rfl).trans rfl, fun _ _ _ => (aGo_s rfl).trans rfl, fun _ _ _ => (aGo_s rfl).trans rfl, fun _ _ _ => (aGo_s rfl).trans rfl, fun _ _ _ => (aGo_s rfl).trans rfl, fun _ _ _ => (aGo_s rfl).trans rfl, fun _ _ _ => (aGo_s rfl).trans rfl, fun _ _ _ => (aGo_s rfl).trans rfl, fun _ _ _ => (aGo_s rfl).trans rfl, fun _ _ _ => (aGo_s rfl).trans rfl, fun _ _ _ => (aGo_s rfl).trans rfl, fun _ _ _ => (aGo_s rfl).trans rfl, fun _ _ _ => (aGo_s rfl).trans rfl, fun _ _ _ => (aGo_s rfl).trans rfl, fun _ _ _ => (aGo_s rfl).trans rfl, fun _ _ _ => (aGo_s rfl).trans rfl, fun _ _ _ => (aGo_s rfl).trans rfl, fun _ _ _ => (aGo_s rfl).trans rfl, fun _ _ _ => (aGo_s rfl).trans rfl, fun _ _ _ => (aGo_s rfl).trans rfl, fun _ _ _ => (aGo_s rfl).trans rfl⟩
theorem s_165_4 {cl : Nat → List Value → aH → aRs} : ∀ ls st H, aGo cl none cd_165 0 4 ls st H = aILoad (fun st => aGo cl none cd_165 0 5 ls st H) ls 3 st := fun _ _ _ => (aGo_s rfl).trans rfl
theorem e_165 {d : Nat} {x0 : Nat} {x1 : Int32} {H : aH} : aCall aMt (d + 1) 165 [.ref x0, .int x1] H = aGo (aCall aMt d) none cd_165 0 0 [some (.ref x0), some (.int x1), none, none] [] H := (c_0 rfl ⟨rfl, Nat.le_of_ble_eq_true rfl, Nat.le_of_ble_eq_true rfl⟩).trans rfl
theorem s_166 {cl : Nat → List Value → aH → aRs} : (∀ ls st H, aGo cl none cd_166 0 0 ls st H = aRLoad (fun st => aGo cl none cd_166 0 1 ls st H) ls 0 st) ∧
  (∀ ls st H, aGo cl none cd_166 0 1 ls st H = aILoad (fun st => aGo cl none cd_166 0 2 ls st H) ls 1 st) ∧
  (∀ ls st H, aGo cl none cd_166 0 2 ls st H = aCallV (fun st H => aGo cl none cd_166 0 5 ls st H) cl 122 1 8 H st) ∧
  (∀ ls st H, aGo cl none cd_166 0 5 ls st H = aIf (fun p st => aGo cl none cd_166 0 p ls st H) .eq 17 8 st) ∧
  (∀ ls st H, aGo cl none cd_166 0 8 ls st H = aILoad (fun st => aGo cl none cd_166 0 9 ls st H) ls 2 st) ∧
  (∀ ls st H, aGo cl none cd_166 0 9 ls st H = aGo cl none cd_166 0 10 ls (.int 0 :: st) H) ∧
  (∀ ls st H, aGo cl none cd_166 0 10 ls st H = aGo cl none cd_166 0 11 ls (.int 5 :: st) H) ∧
  (∀ ls st H, aGo cl none cd_166 0 11 ls st H = aCallI (fun st H => aGo cl none cd_166 0 14 ls st H) cl 117 3 H st) ∧
  (∀ ls st H, aGo cl none cd_166 0 14 ls st H = aIf (fun p st => aGo cl none cd_166 0 p ls st H) .ne 23 17 st) ∧
  (∀ ls st H, aGo cl none cd_166 0 17 ls st H = aRLoad (fun st => aGo cl none cd_166 0 18 ls st H) ls 0 st) ∧
  (∀ ls st H, aGo cl none cd_166 0 18 ls st H = aGo cl none cd_166 0 19 ls (.int 1 :: st) H) ∧
  (∀ ls st H, aGo cl none cd_166 0 19 ls st H = aCallV (fun st H => aGo cl none cd_166 0 22 ls st H) cl 116 1 8 H st) ∧
  (∀ ls st H, aGo cl none cd_166 0 22 ls st H = aIret 0 st H) ∧
  (∀ ls st H, aGo cl none cd_166 0 23 ls st H = aILoad (fun st => aGo cl none cd_166 0 24 ls st H) ls 2 st) ∧
  (∀ ls st H, aGo cl none cd_166 0 24 ls st H = aGo cl none cd_166 0 25 ls (.int 5 :: st) H) ∧
  (∀ ls st H, aGo cl none cd_166 0 25 ls st H = aIc (fun p st => aGo cl none cd_166 0 p ls st H) .ge 37 28 st) ∧
  (∀ ls st H, aGo cl none cd_166 0 28 ls st H = aRLoad (fun st => aGo cl none cd_166 0 29 ls st H) ls 0 st) ∧
  (∀ ls st H, aGo cl none cd_166 0 29 ls st H = aILoad (fun st => aGo cl none cd_166 0 30 ls st H) ls 1 st) ∧
  (∀ ls st H, aGo cl none cd_166 0 30 ls st H = aILoad (fun st => aGo cl none cd_166 0 31 ls st H) ls 2 st) ∧
  (∀ ls st H, aGo cl none cd_166 0 31 ls st H = aCallV (fun st H => aGo cl none cd_166 0 34 ls st H) cl 124 2 8 H st) ∧
  (∀ ls st H, aGo cl none cd_166 0 34 ls st H = aGo cl none cd_166 0 42 ls st H) ∧
  (∀ ls st H, aGo cl none cd_166 0 37 ls st H = aRLoad (fun st => aGo cl none cd_166 0 38 ls st H) ls 0 st) ∧
  (∀ ls st H, aGo cl none cd_166 0 38 ls st H = aILoad (fun st => aGo cl none cd_166 0 39 ls st H) ls 1 st) ∧
  (∀ ls st H, aGo cl none cd_166 0 39 ls st H = aCallV (fun st H => aGo cl none cd_166 0 42 ls st H) cl 165 1 8 H st) ∧
  (∀ ls st H, aGo cl none cd_166 0 42 ls st H = aIret 0 st H) :=
  ⟨fun _ _ _ => (aGo_s rfl).trans rfl, fun _ _ _ => (aGo_s rfl).trans rfl, fun _ _ _ => (aGo_s rfl).trans rfl, fun _ _ _ => (aGo_s rfl).trans rfl, fun _ _ _ => (aGo_s rfl).trans rfl, fun _ _ _ => (aGo_s rfl).trans rfl, fun _ _ _ => (aGo_s rfl).trans rfl, fun _ _ _ => (aGo_s rfl).trans rfl, fun _ _ _ => (aGo_s rfl).trans rfl, fun _ _ _ => (aGo_s rfl).trans rfl, fun _ _ _ => (aGo_s rfl).trans rfl, fun _ _ _ => (aGo_s rfl).trans rfl, fun _ _ _ => (aGo_s rfl).trans rfl, fun _ _ _ => (aGo_s rfl).trans rfl, fun _ _ _ => (aGo_s rfl).trans rfl, fun _ _ _ => (aGo_s rfl).trans rfl, fun _ _ _ => (aGo_s rfl).trans rfl, fun _ _ _ => (aGo_s rfl).trans rfl, fun _ _ _ => (aGo_s rfl).trans rfl, fun _ _ _ => (aGo_s rfl).trans rfl, fun _ _ _ => (aGo_s rfl).trans rfl, fun _ _ _ => (aGo_s rfl).trans rfl, fun _ _ _ => (aGo_s rfl).trans rfl, fun _ _ _ => (aGo_s rfl).trans rfl, fun _ _ _ => (aGo_s rfl).trans rfl⟩
theorem e_166 {d : Nat} {x0 : Nat} {x1 : Int32} {x2 : Int32} {H : aH} : aCall aMt (d + 1) 166 [.ref x0, .int x1, .int x2] H = aGo (aCall aMt d) none cd_166 0 0 [some (.ref x0), some (.int x1), some (.int x2)] [] H := (c_0 rfl ⟨rfl, Nat.le_of_ble_eq_true rfl, Nat.le_of_ble_eq_true rfl⟩).trans rfl
theorem s_167 {cl : Nat → List Value → aH → aRs} : (∀ ls st H, aGo cl none cd_167 0 0 ls st H = aRLoad (fun st => aGo cl none cd_167 0 1 ls st H) ls 0 st) ∧
  (∀ ls st H, aGo cl none cd_167 0 1 ls st H = aILoad (fun st => aGo cl none cd_167 0 2 ls st H) ls 1 st) ∧
  (∀ ls st H, aGo cl none cd_167 0 2 ls st H = aCallV (fun st H => aGo cl none cd_167 0 5 ls st H) cl 122 1 8 H st) ∧
  (∀ ls st H, aGo cl none cd_167 0 5 ls st H = aIf (fun p st => aGo cl none cd_167 0 p ls st H) .eq 15 8 st) ∧
  (∀ ls st H, aGo cl none cd_167 0 8 ls st H = aILoad (fun st => aGo cl none cd_167 0 9 ls st H) ls 2 st) ∧
  (∀ ls st H, aGo cl none cd_167 0 9 ls st H = aCallI (fun st H => aGo cl none cd_167 0 12 ls st H) cl 163 1 H st) ∧
  (∀ ls st H, aGo cl none cd_167 0 12 ls st H = aIf (fun p st => aGo cl none cd_167 0 p ls st H) .ne 21 15 st) ∧
  (∀ ls st H, aGo cl none cd_167 0 15 ls st H = aRLoad (fun st => aGo cl none cd_167 0 16 ls st H) ls 0 st) ∧
  (∀ ls st H, aGo cl none cd_167 0 16 ls st H = aGo cl none cd_167 0 17 ls (.int 1 :: st) H) ∧
  (∀ ls st H, aGo cl none cd_167 0 17 ls st H = aCallV (fun st H => aGo cl none cd_167 0 20 ls st H) cl 116 1 8 H st) ∧
  (∀ ls st H, aGo cl none cd_167 0 20 ls st H = aIret 0 st H) ∧
  (∀ ls st H, aGo cl none cd_167 0 21 ls st H = aRLoad (fun st => aGo cl none cd_167 0 22 ls st H) ls 0 st) ∧
  (∀ ls st H, aGo cl none cd_167 0 22 ls st H = aILoad (fun st => aGo cl none cd_167 0 23 ls st H) ls 1 st) ∧
  (∀ ls st H, aGo cl none cd_167 0 23 ls st H = aGo cl none cd_167 0 24 ls (.int 1 :: st) H) ∧
  (∀ ls st H, aGo cl none cd_167 0 24 ls st H = aILoad (fun st => aGo cl none cd_167 0 25 ls st H) ls 2 st) ∧
  (∀ ls st H, aGo cl none cd_167 0 25 ls st H = aGo cl none cd_167 0 27 ls (.int 10 :: st) H) ∧
  (∀ ls st H, aGo cl none cd_167 0 27 ls st H = aRem (fun st => aGo cl none cd_167 0 28 ls st H) st) ∧
  (∀ ls st H, aGo cl none cd_167 0 28 ls st H = aCallV (fun st H => aGo cl none cd_167 0 31 ls st H) cl 125 3 8 H st) ∧
  (∀ ls st H, aGo cl none cd_167 0 31 ls st H = aRLoad (fun st => aGo cl none cd_167 0 32 ls st H) ls 0 st) ∧
  (∀ ls st H, aGo cl none cd_167 0 32 ls st H = aGo cl none cd_167 0 34 ls (.int 10 :: st) H) ∧
  (∀ ls st H, aGo cl none cd_167 0 34 ls st H = aGo cl none cd_167 0 35 ls (.int 5 :: st) H) ∧
  (∀ ls st H, aGo cl none cd_167 0 35 ls st H = aILoad (fun st => aGo cl none cd_167 0 36 ls st H) ls 1 st) ∧
  (∀ ls st H, aGo cl none cd_167 0 36 ls st H = aBin (fun st => aGo cl none cd_167 0 37 ls st H) (fun x y => x * y) st) ∧
  (∀ ls st H, aGo cl none cd_167 0 37 ls st H = aBin (fun st => aGo cl none cd_167 0 38 ls st H) (fun x y => x + y) st) ∧
  (∀ ls st H, aGo cl none cd_167 0 38 ls st H = aGo cl none cd_167 0 39 ls (.int 0 :: st) H) ∧
  (∀ ls st H, aGo cl none cd_167 0 39 ls st H = aBin (fun st => aGo cl none cd_167 0 40 ls st H) (fun x y => x + y) st) ∧
  (∀ ls st H, aGo cl none cd_167 0 40 ls st H = aILoad (fun st => aGo cl none cd_167 0 41 ls st H) ls 2 st) ∧
  (∀ ls st H, aGo cl none cd_167 0 41 ls st H = aGo cl none cd_167 0 43 ls (.int 10 :: st) H) ∧
  (∀ ls st H, aGo cl none cd_167 0 43 ls st H = aDiv (fun st => aGo cl none cd_167 0 44 ls st H) st) ∧
  (∀ ls st H, aGo cl none cd_167 0 44 ls st H = aCallV (fun st H => aGo cl none cd_167 0 47 ls st H) cl 128 2 8 H st) ∧
  (∀ ls st H, aGo cl none cd_167 0 47 ls st H = aIret 0 st H) :=
  ⟨fun _ _ _ => (aGo_s rfl).trans rfl, fun _ _ _ => (aGo_s rfl).trans rfl, fun _ _ _ => (aGo_s rfl).trans rfl, fun _ _ _ => (aGo_s rfl).trans rfl, fun _ _ _ => (aGo_s rfl).trans rfl, fun _ _ _ => (aGo_s rfl).trans rfl, fun _ _ _ => (aGo_s rfl).trans rfl, fun _ _ _ => (aGo_s rfl).trans rfl, fun _ _ _ => (aGo_s rfl).trans rfl, fun _ _ _ => (aGo_s rfl).trans rfl, fun _ _ _ => (aGo_s rfl).trans rfl, fun _ _ _ => (aGo_s rfl).trans rfl, fun _ _ _ => (aGo_s rfl).trans rfl, fun _ _ _ => (aGo_s rfl).trans rfl, fun _ _ _ => (aGo_s rfl).trans rfl, fun _ _ _ => (aGo_s rfl).trans rfl, fun _ _ _ => (aGo_s rfl).trans rfl, fun _ _ _ => (aGo_s rfl).trans rfl, fun _ _ _ => (aGo_s rfl).trans rfl, fun _ _ _ => (aGo_s rfl).trans rfl, fun _ _ _ => (aGo_s rfl).trans rfl, fun _ _ _ => (aGo_s rfl).trans rfl, fun _ _ _ => (aGo_s rfl).trans rfl, fun _ _ _ => (aGo_s rfl).trans rfl, fun _ _ _ => (aGo_s rfl).trans rfl, fun _ _ _ => (aGo_s rfl).trans rfl, fun _ _ _ => (aGo_s rfl).trans rfl, fun _ _ _ => (aGo_s rfl).trans rfl, fun _ _ _ => (aGo_s rfl).trans rfl, fun _ _ _ => (aGo_s rfl).trans rfl, fun _ _ _ => (aGo_s rfl).trans rfl⟩
theorem e_167 {d : Nat} {x0 : Nat} {x1 : Int32} {x2 : Int32} {H : aH} : aCall aMt (d + 1) 167 [.ref x0, .int x1, .int x2] H = aGo (aCall aMt d) none cd_167 0 0 [some (.ref x0), some (.int x1), some (.int x2)] [] H := (c_0 rfl ⟨rfl, Nat.le_of_ble_eq_true rfl, Nat.le_of_ble_eq_true rfl⟩).trans rfl
theorem s_168 {cl : Nat → List Value → aH → aRs} : (∀ ls st H, aGo cl none cd_168 0 0 ls st H = aRLoad (fun st => aGo cl none cd_168 0 1 ls st H) ls 0 st) ∧
  (∀ ls st H, aGo cl none cd_168 0 1 ls st H = aILoad (fun st => aGo cl none cd_168 0 2 ls st H) ls 1 st) ∧
  (∀ ls st H, aGo cl none cd_168 0 2 ls st H = aCallV (fun st H => aGo cl none cd_168 0 5 ls st H) cl 122 1 8 H st) ∧
  (∀ ls st H, aGo cl none cd_168 0 5 ls st H = aIf (fun p st => aGo cl none cd_168 0 p ls st H) .eq 18 8 st) ∧
  (∀ ls st H, aGo cl none cd_168 0 8 ls st H = aILoad (fun st => aGo cl none cd_168 0 9 ls st H) ls 2 st) ∧
  (∀ ls st H, aGo cl none cd_168 0 9 ls st H = aGo cl none cd_168 0 10 ls (.int 0 :: st) H) ∧
  (∀ ls st H, aGo cl none cd_168 0 10 ls st H = aGo cl none cd_168 0 12 ls (.int 6 :: st) H) ∧
  (∀ ls st H, aGo cl none cd_168 0 12 ls st H = aCallI (fun st H => aGo cl none cd_168 0 15 ls st H) cl 117 3 H st) ∧
  (∀ ls st H, aGo cl none cd_168 0 15 ls st H = aIf (fun p st => aGo cl none cd_168 0 p ls st H) .ne 24 18 st) ∧
  (∀ ls st H, aGo cl none cd_168 0 18 ls st H = aRLoad (fun st => aGo cl none cd_168 0 19 ls st H) ls 0 st) ∧
  (∀ ls st H, aGo cl none cd_168 0 19 ls st H = aGo cl none cd_168 0 20 ls (.int 1 :: st) H) ∧
  (∀ ls st H, aGo cl none cd_168 0 20 ls st H = aCallV (fun st H => aGo cl none cd_168 0 23 ls st H) cl 116 1 8 H st) ∧
  (∀ ls st H, aGo cl none cd_168 0 23 ls st H = aIret 0 st H) ∧
  (∀ ls st H, aGo cl none cd_168 0 24 ls st H = aRLoad (fun st => aGo cl none cd_168 0 25 ls st H) ls 0 st) ∧
  (∀ ls st H, aGo cl none cd_168 0 25 ls st H = aILoad (fun st => aGo cl none cd_168 0 26 ls st H) ls 1 st) ∧
  (∀ ls st H, aGo cl none cd_168 0 26 ls st H = aGo cl none cd_168 0 27 ls (.int 0 :: st) H) ∧
  (∀ ls st H, aGo cl none cd_168 0 27 ls st H = aCallV (fun st H => aGo cl none cd_168 0 30 ls st H) cl 124 2 8 H st) ∧
  (∀ ls st H, aGo cl none cd_168 0 30 ls st H = aIStore (fun ls st => aGo cl none cd_168 0 31 ls st H) ls 3 st) ∧
  (∀ ls st H, aGo cl none cd_168 0 32 ls st H = aILoad (fun st => aGo cl none cd_168 0 33 ls st H) ls 2 st) ∧
  (∀ ls st H, aGo cl none cd_168 0 33 ls st H = aIc (fun p st => aGo cl none cd_168 0 p ls st H) .eq 48 36 st) ∧
  (∀ ls st H, aGo cl none cd_168 0 36 ls st H = aILoad (fun st => aGo cl none cd_168 0 37 ls st H) ls 3 st) ∧
  (∀ ls st H, aGo cl none cd_168 0 37 ls st H = aIf (fun p st => aGo cl none cd_168 0 p ls st H) .eq 48 40 st) ∧
  (∀ ls st H, aGo cl none cd_168 0 40 ls st H = aILoad (fun st => aGo cl none cd_168 0 41 ls st H) ls 3 st) ∧
  (∀ ls st H, aGo cl none cd_168 0 41 ls st H = aCallI (fun st H => aGo cl none cd_168 0 44 ls st H) cl 197 1 H st) ∧
  (∀ ls st H, aGo cl none cd_168 0 44 ls st H = aIStore (fun ls st => aGo cl none cd_168 0 45 ls st H) ls 3 st) ∧
  (∀ ls st H, aGo cl none cd_168 0 45 ls st H = aGo cl none cd_168 0 31 ls st H) ∧
  (∀ ls st H, aGo cl none cd_168 0 48 ls st H = aILoad (fun st => aGo cl none cd_168 0 49 ls st H) ls 3 st) ∧
  (∀ ls st H, aGo cl none cd_168 0 49 ls st H = aILoad (fun st => aGo cl none cd_168 0 50 ls st H) ls 2 st) ∧
  (∀ ls st H, aGo cl none cd_168 0 50 ls st H = aIc (fun p st => aGo cl none cd_168 0 p ls st H) .ne 62 53 st) ∧
  (∀ ls st H, aGo cl none cd_168 0 53 ls st H = aRLoad (fun st => aGo cl none cd_168 0 54 ls st H) ls 0 st) ∧
  (∀ ls st H, aGo cl none cd_168 0 54 ls st H = aILoad (fun st => aGo cl none cd_168 0 55 ls st H) ls 1 st) ∧
  (∀ ls st H, aGo cl none cd_168 0 55 ls st H = aGo cl none cd_168 0 56 ls (.int 1 :: st) H) ∧
  (∀ ls st H, aGo cl none cd_168 0 56 ls st H = aCallV (fun st H => aGo cl none cd_168 0 59 ls st H) cl 124 2 8 H st) ∧
  (∀ ls st H, aGo cl none cd_168 0 59 ls st H = aGo cl none cd_168 0 67 ls st H) ∧
  (∀ ls st H, aGo cl none cd_168 0 62 ls st H = aRLoad (fun st => aGo cl none cd_168 0 63 ls st H) ls 0 st) ∧
  (∀ ls st H, aGo cl none cd_168 0 63 ls st H = aGo cl none cd_168 0 64 ls (.int 5 :: st) H) ∧
  (∀ ls st H, aGo cl none cd_168 0 64 ls st H = aCallV (fun st H => aGo cl none cd_168 0 67 ls st H) cl 116 1 8 H st) ∧
  (∀ ls st H, aGo cl none cd_168 0 67 ls st H = aIret 0 st H) :=
  ⟨fun _ _ _ => (aGo_s rfl).trans rfl, fun _ _ _ => (aGo_s rfl).trans rfl, fun _ _ _ => (aGo_s rfl).trans rfl, fun _ _ _ => (aGo_s rfl).trans rfl, fun _ _ _ => (aGo_s rfl).trans rfl, fun _ _ _ => (aGo_s rfl).trans rfl, fun _ _ _ => (aGo_s rfl).trans rfl, fun _ _ _ => (aGo_s rfl).trans rfl, fun _ _ _ => (aGo_s rfl).trans rfl, fun _ _ _ => (aGo_s rfl).trans rfl, fun _ _ _ => (aGo_s rfl).trans rfl, fun _ _ _ => (aGo_s rfl).trans rfl, fun _ _ _ => (aGo_s rfl).trans rfl, fun _ _ _ => (aGo_s rfl).trans rfl, fun _ _ _ => (aGo_s rfl).trans rfl, fun _ _ _ => (aGo_s rfl).trans rfl, fun _ _ _ => (aGo_s rfl).trans rfl, fun _ _ _ => (aGo_s rfl).trans rfl, fun _ _ _ => (aGo_s rfl).trans rfl, fun _ _ _ => (aGo_s rfl).trans rfl, fun _ _ _ => (aGo_s rfl).trans rfl, fun _ _ _ => (aGo_s rfl).trans rfl, fun _ _ _ => (aGo_s rfl).trans rfl, fun _ _ _ => (aGo_s rfl).trans rfl, fun _ _ _ => (aGo_s rfl).trans rfl, fun _ _ _ => (aGo_s rfl).trans rfl, fun _ _ _ => (aGo_s rfl).trans rfl, fun _ _ _ => (aGo_s rfl).trans rfl, fun _ _ _ => (aGo_s rfl).trans rfl, fun _ _ _ => (aGo_s rfl).trans rfl, fun _ _ _ => (aGo_s rfl).trans rfl, fun _ _ _ => (aGo_s rfl).trans rfl, fun _ _ _ => (aGo_s rfl).trans rfl, fun _ _ _ => (aGo_s rfl).trans rfl, fun _ _ _ => (aGo_s rfl).trans rfl, fun _ _ _ => (aGo_s rfl).trans rfl, fun _ _ _ => (aGo_s rfl).trans rfl, fun _ _ _ => (aGo_s rfl).trans rfl⟩
theorem s_168_31 {cl : Nat → List Value → aH → aRs} : ∀ ls st H, aGo cl none cd_168 0 31 ls st H = aILoad (fun st => aGo cl none cd_168 0 32 ls st H) ls 3 st := fun _ _ _ => (aGo_s rfl).trans rfl
theorem e_168 {d : Nat} {x0 : Nat} {x1 : Int32} {x2 : Int32} {H : aH} : aCall aMt (d + 1) 168 [.ref x0, .int x1, .int x2] H = aGo (aCall aMt d) none cd_168 0 0 [some (.ref x0), some (.int x1), some (.int x2), none] [] H := (c_0 rfl ⟨rfl, Nat.le_of_ble_eq_true rfl, Nat.le_of_ble_eq_true rfl⟩).trans rfl
theorem s_169 {cl : Nat → List Value → aH → aRs} : (∀ ls st H, aGo cl none cd_169 0 0 ls st H = aRLoad (fun st => aGo cl none cd_169 0 1 ls st H) ls 0 st) ∧
  (∀ ls st H, aGo cl none cd_169 0 1 ls st H = aILoad (fun st => aGo cl none cd_169 0 2 ls st H) ls 1 st) ∧
  (∀ ls st H, aGo cl none cd_169 0 2 ls st H = aCallV (fun st H => aGo cl none cd_169 0 5 ls st H) cl 122 1 8 H st) ∧
  (∀ ls st H, aGo cl none cd_169 0 5 ls st H = aIf (fun p st => aGo cl none cd_169 0 p ls st H) .eq 17 8 st) ∧
  (∀ ls st H, aGo cl none cd_169 0 8 ls st H = aILoad (fun st => aGo cl none cd_169 0 9 ls st H) ls 2 st) ∧
  (∀ ls st H, aGo cl none cd_169 0 9 ls st H = aGo cl none cd_169 0 10 ls (.int 0 :: st) H) ∧
  (∀ ls st H, aGo cl none cd_169 0 10 ls st H = aGo cl none cd_169 0 11 ls (.int 2 :: st) H) ∧
  (∀ ls st H, aGo cl none cd_169 0 11 ls st H = aCallI (fun st H => aGo cl none cd_169 0 14 ls st H) cl 117 3 H st) ∧
  (∀ ls st H, aGo cl none cd_169 0 14 ls st H = aIf (fun p st => aGo cl none cd_169 0 p ls st H) .ne 23 17 st) ∧
  (∀ ls st H, aGo cl none cd_169 0 17 ls st H = aRLoad (fun st => aGo cl none cd_169 0 18 ls st H) ls 0 st) ∧
  (∀ ls st H, aGo cl none cd_169 0 18 ls st H = aGo cl none cd_169 0 19 ls (.int 1 :: st) H) ∧
  (∀ ls st H, aGo cl none cd_169 0 19 ls st H = aCallV (fun st H => aGo cl none cd_169 0 22 ls st H) cl 116 1 8 H st) ∧
  (∀ ls st H, aGo cl none cd_169 0 22 ls st H = aIret 0 st H) ∧
  (∀ ls st H, aGo cl none cd_169 0 23 ls st H = aILoad (fun st => aGo cl none cd_169 0 24 ls st H) ls 2 st) ∧
  (∀ ls st H, aGo cl none cd_169 0 24 ls st H = aIf (fun p st => aGo cl none cd_169 0 p ls st H) .ne 37 27 st) ∧
  (∀ ls st H, aGo cl none cd_169 0 27 ls st H = aILoad (fun st => aGo cl none cd_169 0 28 ls st H) ls 3 st) ∧
  (∀ ls st H, aGo cl none cd_169 0 28 ls st H = aGo cl none cd_169 0 29 ls (.int 0 :: st) H) ∧
  (∀ ls st H, aGo cl none cd_169 0 29 ls st H = aGo cl none cd_169 0 31 ls (.int 99 :: st) H) ∧
  (∀ ls st H, aGo cl none cd_169 0 31 ls st H = aCallI (fun st H => aGo cl none cd_169 0 34 ls st H) cl 117 3 H st) ∧
  (∀ ls st H, aGo cl none cd_169 0 34 ls st H = aGo cl none cd_169 0 75 ls st H) ∧
  (∀ ls st H, aGo cl none cd_169 0 37 ls st H = aILoad (fun st => aGo cl none cd_169 0 38 ls st H) ls 2 st) ∧
  (∀ ls st H, aGo cl none cd_169 0 38 ls st H = aGo cl none cd_169 0 39 ls (.int 1 :: st) H) ∧
  (∀ ls st H, aGo cl none cd_169 0 39 ls st H = aIc (fun p st => aGo cl none cd_169 0 p ls st H) .ne 52 42 st) ∧
  (∀ ls st H, aGo cl none cd_169 0 42 ls st H = aILoad (fun st => aGo cl none cd_169 0 43 ls st H) ls 3 st) ∧
  (∀ ls st H, aGo cl none cd_169 0 43 ls st H = aGo cl none cd_169 0 44 ls (.int 0 :: st) H) ∧
  (∀ ls st H, aGo cl none cd_169 0 44 ls st H = aGo cl none cd_169 0 46 ls (.int 9 :: st) H) ∧
  (∀ ls st H, aGo cl none cd_169 0 46 ls st H = aCallI (fun st H => aGo cl none cd_169 0 49 ls st H) cl 117 3 H st) ∧
  (∀ ls st H, aGo cl none cd_169 0 49 ls st H = aGo cl none cd_169 0 75 ls st H) ∧
  (∀ ls st H, aGo cl none cd_169 0 52 ls st H = aILoad (fun st => aGo cl none cd_169 0 53 ls st H) ls 3 st) ∧
  (∀ ls st H, aGo cl none cd_169 0 53 ls st H = aGo cl none cd_169 0 54 ls (.int (-1) :: st) H) ∧
  (∀ ls st H, aGo cl none cd_169 0 54 ls st H = aIc (fun p st => aGo cl none cd_169 0 p ls st H) .eq 70 57 st) ∧
  (∀ ls st H, aGo cl none cd_169 0 57 ls st H = aRLoad (fun st => aGo cl none cd_169 0 58 ls st H) ls 0 st) ∧
  (∀ ls st H, aGo cl none cd_169 0 58 ls st H = aILoad (fun st => aGo cl none cd_169 0 59 ls st H) ls 3 st) ∧
  (∀ ls st H, aGo cl none cd_169 0 59 ls st H = aCallV (fun st H => aGo cl none cd_169 0 62 ls st H) cl 122 1 8 H st) ∧
  (∀ ls st H, aGo cl none cd_169 0 62 ls st H = aIf (fun p st => aGo cl none cd_169 0 p ls st H) .eq 74 65 st) ∧
  (∀ ls st H, aGo cl none cd_169 0 65 ls st H = aILoad (fun st => aGo cl none cd_169 0 66 ls st H) ls 3 st) ∧
  (∀ ls st H, aGo cl none cd_169 0 66 ls st H = aILoad (fun st => aGo cl none cd_169 0 67 ls st H) ls 1 st) ∧
  (∀ ls st H, aGo cl none cd_169 0 67 ls st H = aIc (fun p st => aGo cl none cd_169 0 p ls st H) .eq 74 70 st) ∧
  (∀ ls st H, aGo cl none cd_169 0 70 ls st H = aGo cl none cd_169 0 71 ls (.int 1 :: st) H) ∧
  (∀ ls st H, aGo cl none cd_169 0 71 ls st H = aGo cl none cd_169 0 75 ls st H) ∧
  (∀ ls st H, aGo cl none cd_169 0 74 ls st H = aGo cl none cd_169 0 75 ls (.int 0 :: st) H) ∧
  (∀ ls st H, aGo cl none cd_169 0 75 ls st H = aIStore (fun ls st => aGo cl none cd_169 0 77 ls st H) ls 4 st) ∧
  (∀ ls st H, aGo cl none cd_169 0 77 ls st H = aILoad (fun st => aGo cl none cd_169 0 79 ls st H) ls 4 st) ∧
  (∀ ls st H, aGo cl none cd_169 0 79 ls st H = aIf (fun p st => aGo cl none cd_169 0 p ls st H) .eq 100 82 st) ∧
  (∀ ls st H, aGo cl none cd_169 0 82 ls st H = aRLoad (fun st => aGo cl none cd_169 0 83 ls st H) ls 0 st) ∧
  (∀ ls st H, aGo cl none cd_169 0 83 ls st H = aGo cl none cd_169 0 85 ls (.int 10 :: st) H) ∧
  (∀ ls st H, aGo cl none cd_169 0 85 ls st H = aGo cl none cd_169 0 86 ls (.int 5 :: st) H) ∧
  (∀ ls st H, aGo cl none cd_169 0 86 ls st H = aILoad (fun st => aGo cl none cd_169 0 87 ls st H) ls 1 st) ∧
  (∀ ls st H, aGo cl none cd_169 0 87 ls st H = aBin (fun st => aGo cl none cd_169 0 88 ls st H) (fun x y => x * y) st) ∧
  (∀ ls st H, aGo cl none cd_169 0 88 ls st H = aBin (fun st => aGo cl none cd_169 0 89 ls st H) (fun x y => x + y) st) ∧
  (∀ ls st H, aGo cl none cd_169 0 89 ls st H = aGo cl none cd_169 0 90 ls (.int 2 :: st) H) ∧
  (∀ ls st H, aGo cl none cd_169 0 90 ls st H = aBin (fun st => aGo cl none cd_169 0 91 ls st H) (fun x y => x + y) st) ∧
  (∀ ls st H, aGo cl none cd_169 0 91 ls st H = aILoad (fun st => aGo cl none cd_169 0 92 ls st H) ls 2 st) ∧
  (∀ ls st H, aGo cl none cd_169 0 92 ls st H = aBin (fun st => aGo cl none cd_169 0 93 ls st H) (fun x y => x + y) st) ∧
  (∀ ls st H, aGo cl none cd_169 0 93 ls st H = aILoad (fun st => aGo cl none cd_169 0 94 ls st H) ls 3 st) ∧
  (∀ ls st H, aGo cl none cd_169 0 94 ls st H = aCallV (fun st H => aGo cl none cd_169 0 97 ls st H) cl 128 2 8 H st) ∧
  (∀ ls st H, aGo cl none cd_169 0 97 ls st H = aGo cl none cd_169 0 105 ls st H) ∧
  (∀ ls st H, aGo cl none cd_169 0 100 ls st H = aRLoad (fun st => aGo cl none cd_169 0 101 ls st H) ls 0 st) ∧
  (∀ ls st H, aGo cl none cd_169 0 101 ls st H = aGo cl none cd_169 0 102 ls (.int 1 :: st) H) ∧
  (∀ ls st H, aGo cl none cd_169 0 102 ls st H = aCallV (fun st H => aGo cl none cd_169 0 105 ls st H) cl 116 1 8 H st) ∧
  (∀ ls st H, aGo cl none cd_169 0 105 ls st H = aIret 0 st H) :=
  ⟨fun _ _ _ => (aGo_s rfl).trans rfl, fun _ _ _ => (aGo_s rfl).trans rfl, fun _ _ _ => (aGo_s rfl).trans rfl, fun _ _ _ => (aGo_s rfl).trans rfl, fun _ _ _ => (aGo_s rfl).trans rfl, fun _ _ _ => (aGo_s rfl).trans rfl, fun _ _ _ => (aGo_s rfl).trans rfl, fun _ _ _ => (aGo_s rfl).trans rfl, fun _ _ _ => (aGo_s rfl).trans rfl, fun _ _ _ => (aGo_s rfl).trans rfl, fun _ _ _ => (aGo_s rfl).trans rfl, fun _ _ _ => (aGo_s rfl).trans rfl, fun _ _ _ => (aGo_s rfl).trans rfl, fun _ _ _ => (aGo_s rfl).trans rfl, fun _ _ _ => (aGo_s rfl).trans rfl, fun _ _ _ => (aGo_s rfl).trans rfl, fun _ _ _ => (aGo_s rfl).trans rfl, fun _ _ _ => (aGo_s rfl).trans rfl, fun _ _ _ => (aGo_s rfl).trans rfl, fun _ _ _ => (aGo_s rfl).trans rfl, fun _ _ _ => (aGo_s rfl).trans rfl, fun _ _ _ => (aGo_s rfl).trans rfl, fun _ _ _ => (aGo_s rfl).trans rfl, fun _ _ _ => (aGo_s rfl).trans rfl, fun _ _ _ => (aGo_s rfl).trans rfl, fun _ _ _ => (aGo_s rfl).trans rfl, fun _ _ _ => (aGo_s rfl).trans rfl, fun _ _ _ => (aGo_s rfl).trans rfl, fun _ _ _ => (aGo_s rfl).trans rfl, fun _ _ _ => (aGo_s rfl).trans rfl, fun _ _ _ => (aGo_s rfl).trans rfl, fun _ _ _ => (aGo_s rfl).trans rfl, fun _ _ _ => (aGo_s rfl).trans rfl, fun _ _ _ => (aGo_s rfl).trans rfl, fun _ _ _ => (aGo_s rfl).trans rfl, fun _ _ _ => (aGo_s rfl).trans rfl, fun _ _ _ => (aGo_s rfl).trans rfl, fun _ _ _ => (aGo_s rfl).trans rfl, fun _ _ _ => (aGo_s rfl).trans rfl, fun _ _ _ => (aGo_s rfl).trans rfl, fun _ _ _ => (aGo_s rfl).trans rfl, fun _ _ _ => (aGo_s rfl).trans rfl, fun _ _ _ => (aGo_s rfl).trans rfl, fun _ _ _ => (aGo_s rfl).trans rfl, fun _ _ _ => (aGo_s rfl).trans rfl, fun _ _ _ => (aGo_s rfl).trans rfl, fun _ _ _ => (aGo_s rfl).trans rfl, fun _ _ _ => (aGo_s rfl).trans rfl, fun _ _ _ => (aGo_s rfl).trans rfl, fun _ _ _ => (aGo_s rfl).trans rfl, fun _ _ _ => (aGo_s rfl).trans rfl, fun _ _ _ => (aGo_s rfl).trans rfl, fun _ _ _ => (aGo_s rfl).trans rfl, fun _ _ _ => (aGo_s rfl).trans rfl, fun _ _ _ => (aGo_s rfl).trans rfl, fun _ _ _ => (aGo_s rfl).trans rfl, fun _ _ _ => (aGo_s rfl).trans rfl, fun _ _ _ => (aGo_s rfl).trans rfl, fun _ _ _ => (aGo_s rfl).trans rfl, fun _ _ _ => (aGo_s rfl).trans rfl, fun _ _ _ => (aGo_s rfl).trans rfl⟩
theorem e_169 {d : Nat} {x0 : Nat} {x1 : Int32} {x2 : Int32} {x3 : Int32} {H : aH} : aCall aMt (d + 1) 169 [.ref x0, .int x1, .int x2, .int x3] H = aGo (aCall aMt d) none cd_169 0 0 [some (.ref x0), some (.int x1), some (.int x2), some (.int x3), none] [] H := (c_0 rfl ⟨rfl, Nat.le_of_ble_eq_true rfl, Nat.le_of_ble_eq_true rfl⟩).trans rfl
theorem s_170 {cl : Nat → List Value → aH → aRs} : (∀ ls st H, aGo cl none cd_170 0 0 ls st H = aILoad (fun st => aGo cl none cd_170 0 1 ls st H) ls 0 st) ∧
  (∀ ls st H, aGo cl none cd_170 0 1 ls st H = aGo cl none cd_170 0 2 ls (.int 1 :: st) H) ∧
  (∀ ls st H, aGo cl none cd_170 0 2 ls st H = aIc (fun p st => aGo cl none cd_170 0 p ls st H) .ne 9 5 st) ∧
  (∀ ls st H, aGo cl none cd_170 0 5 ls st H = aGo cl none cd_170 0 6 ls (.int 2 :: st) H) ∧
  (∀ ls st H, aGo cl none cd_170 0 6 ls st H = aGo cl none cd_170 0 29 ls st H) ∧
  (∀ ls st H, aGo cl none cd_170 0 9 ls st H = aILoad (fun st => aGo cl none cd_170 0 10 ls st H) ls 0 st) ∧
  (∀ ls st H, aGo cl none cd_170 0 10 ls st H = aGo cl none cd_170 0 11 ls (.int 2 :: st) H) ∧
  (∀ ls st H, aGo cl none cd_170 0 11 ls st H = aIc (fun p st => aGo cl none cd_170 0 p ls st H) .ne 18 14 st) ∧
  (∀ ls st H, aGo cl none cd_170 0 14 ls st H = aGo cl none cd_170 0 15 ls (.int 3 :: st) H) ∧
  (∀ ls st H, aGo cl none cd_170 0 15 ls st H = aGo cl none cd_170 0 29 ls st H) ∧
  (∀ ls st H, aGo cl none cd_170 0 18 ls st H = aILoad (fun st => aGo cl none cd_170 0 19 ls st H) ls 0 st) ∧
  (∀ ls st H, aGo cl none cd_170 0 19 ls st H = aGo cl none cd_170 0 20 ls (.int 3 :: st) H) ∧
  (∀ ls st H, aGo cl none cd_170 0 20 ls st H = aIc (fun p st => aGo cl none cd_170 0 p ls st H) .ne 28 23 st) ∧
  (∀ ls st H, aGo cl none cd_170 0 23 ls st H = aGo cl none cd_170 0 25 ls (.int 9 :: st) H) ∧
  (∀ ls st H, aGo cl none cd_170 0 25 ls st H = aGo cl none cd_170 0 29 ls st H) ∧
  (∀ ls st H, aGo cl none cd_170 0 28 ls st H = aGo cl none cd_170 0 29 ls (.int 1 :: st) H) ∧
  (∀ ls st H, aGo cl none cd_170 0 29 ls st H = aIret 0 st H) :=
  ⟨fun _ _ _ => (aGo_s rfl).trans rfl, fun _ _ _ => (aGo_s rfl).trans rfl, fun _ _ _ => (aGo_s rfl).trans rfl, fun _ _ _ => (aGo_s rfl).trans rfl, fun _ _ _ => (aGo_s rfl).trans rfl, fun _ _ _ => (aGo_s rfl).trans rfl, fun _ _ _ => (aGo_s rfl).trans rfl, fun _ _ _ => (aGo_s rfl).trans rfl, fun _ _ _ => (aGo_s rfl).trans rfl, fun _ _ _ => (aGo_s rfl).trans rfl, fun _ _ _ => (aGo_s rfl).trans rfl, fun _ _ _ => (aGo_s rfl).trans rfl, fun _ _ _ => (aGo_s rfl).trans rfl, fun _ _ _ => (aGo_s rfl).trans rfl, fun _ _ _ => (aGo_s rfl).trans rfl, fun _ _ _ => (aGo_s rfl).trans rfl, fun _ _ _ => (aGo_s rfl).trans rfl⟩
theorem e_170 {d : Nat} {x0 : Int32} {H : aH} : aCall aMt (d + 1) 170 [.int x0] H = aGo (aCall aMt d) none cd_170 0 0 [some (.int x0)] [] H := (c_0 rfl ⟨rfl, Nat.le_of_ble_eq_true rfl, Nat.le_of_ble_eq_true rfl⟩).trans rfl
theorem s_171 {cl : Nat → List Value → aH → aRs} : (∀ ls st H, aGo cl none cd_171 0 0 ls st H = aRLoad (fun st => aGo cl none cd_171 0 1 ls st H) ls 0 st) ∧
  (∀ ls st H, aGo cl none cd_171 0 1 ls st H = aILoad (fun st => aGo cl none cd_171 0 2 ls st H) ls 1 st) ∧
  (∀ ls st H, aGo cl none cd_171 0 2 ls st H = aCallV (fun st H => aGo cl none cd_171 0 5 ls st H) cl 122 1 8 H st) ∧
  (∀ ls st H, aGo cl none cd_171 0 5 ls st H = aIf (fun p st => aGo cl none cd_171 0 p ls st H) .eq 37 8 st) ∧
  (∀ ls st H, aGo cl none cd_171 0 8 ls st H = aILoad (fun st => aGo cl none cd_171 0 9 ls st H) ls 2 st) ∧
  (∀ ls st H, aGo cl none cd_171 0 9 ls st H = aGo cl none cd_171 0 10 ls (.int 0 :: st) H) ∧
  (∀ ls st H, aGo cl none cd_171 0 10 ls st H = aGo cl none cd_171 0 11 ls (.int 2 :: st) H) ∧
  (∀ ls st H, aGo cl none cd_171 0 11 ls st H = aCallI (fun st H => aGo cl none cd_171 0 14 ls st H) cl 117 3 H st) ∧
  (∀ ls st H, aGo cl none cd_171 0 14 ls st H = aIf (fun p st => aGo cl none cd_171 0 p ls st H) .eq 37 17 st) ∧
  (∀ ls st H, aGo cl none cd_171 0 17 ls st H = aILoad (fun st => aGo cl none cd_171 0 18 ls st H) ls 3 st) ∧
  (∀ ls st H, aGo cl none cd_171 0 18 ls st H = aGo cl none cd_171 0 19 ls (.int 0 :: st) H) ∧
  (∀ ls st H, aGo cl none cd_171 0 19 ls st H = aGo cl none cd_171 0 20 ls (.int 3 :: st) H) ∧
  (∀ ls st H, aGo cl none cd_171 0 20 ls st H = aCallI (fun st H => aGo cl none cd_171 0 23 ls st H) cl 117 3 H st) ∧
  (∀ ls st H, aGo cl none cd_171 0 23 ls st H = aIf (fun p st => aGo cl none cd_171 0 p ls st H) .eq 37 26 st) ∧
  (∀ ls st H, aGo cl none cd_171 0 26 ls st H = aILoad (fun st => aGo cl none cd_171 0 28 ls st H) ls 4 st) ∧
  (∀ ls st H, aGo cl none cd_171 0 28 ls st H = aGo cl none cd_171 0 29 ls (.int 0 :: st) H) ∧
  (∀ ls st H, aGo cl none cd_171 0 29 ls st H = aGo cl none cd_171 0 31 ls (.int 9 :: st) H) ∧
  (∀ ls st H, aGo cl none cd_171 0 31 ls st H = aCallI (fun st H => aGo cl none cd_171 0 34 ls st H) cl 117 3 H st) ∧
  (∀ ls st H, aGo cl none cd_171 0 34 ls st H = aIf (fun p st => aGo cl none cd_171 0 p ls st H) .ne 43 37 st) ∧
  (∀ ls st H, aGo cl none cd_171 0 37 ls st H = aRLoad (fun st => aGo cl none cd_171 0 38 ls st H) ls 0 st) ∧
  (∀ ls st H, aGo cl none cd_171 0 38 ls st H = aGo cl none cd_171 0 39 ls (.int 1 :: st) H) ∧
  (∀ ls st H, aGo cl none cd_171 0 39 ls st H = aCallV (fun st H => aGo cl none cd_171 0 42 ls st H) cl 116 1 8 H st) ∧
  (∀ ls st H, aGo cl none cd_171 0 42 ls st H = aIret 0 st H) ∧
  (∀ ls st H, aGo cl none cd_171 0 43 ls st H = aRLoad (fun st => aGo cl none cd_171 0 44 ls st H) ls 0 st) ∧
  (∀ ls st H, aGo cl none cd_171 0 44 ls st H = aGet (fun st => aGo cl none cd_171 0 47 ls st H) 8 0 H st) ∧
  (∀ ls st H, aGo cl none cd_171 0 47 ls st H = aGo cl none cd_171 0 49 ls (.int 8 :: st) H) ∧
  (∀ ls st H, aGo cl none cd_171 0 49 ls st H = aIald (fun st => aGo cl none cd_171 0 50 ls st H) none H st) ∧
  (∀ ls st H, aGo cl none cd_171 0 50 ls st H = aGo cl none cd_171 0 52 ls (.int 10 :: st) H) ∧
  (∀ ls st H, aGo cl none cd_171 0 52 ls st H = aIc (fun p st => aGo cl none cd_171 0 p ls st H) .ne 61 55 st) ∧
  (∀ ls st H, aGo cl none cd_171 0 55 ls st H = aRLoad (fun st => aGo cl none cd_171 0 56 ls st H) ls 0 st) ∧
  (∀ ls st H, aGo cl none cd_171 0 56 ls st H = aGo cl none cd_171 0 57 ls (.int 4 :: st) H) ∧
  (∀ ls st H, aGo cl none cd_171 0 57 ls st H = aCallV (fun st H => aGo cl none cd_171 0 60 ls st H) cl 116 1 8 H st) ∧
  (∀ ls st H, aGo cl none cd_171 0 60 ls st H = aIret 0 st H) ∧
  (∀ ls st H, aGo cl none cd_171 0 61 ls st H = aRLoad (fun st => aGo cl none cd_171 0 62 ls st H) ls 0 st) ∧
  (∀ ls st H, aGo cl none cd_171 0 62 ls st H = aGet (fun st => aGo cl none cd_171 0 65 ls st H) 8 0 H st) ∧
  (∀ ls st H, aGo cl none cd_171 0 65 ls st H = aGo cl none cd_171 0 67 ls (.int 8 :: st) H) ∧
  (∀ ls st H, aGo cl none cd_171 0 67 ls st H = aIald (fun st => aGo cl none cd_171 0 68 ls st H) none H st) ∧
  (∀ ls st H, aGo cl none cd_171 0 68 ls st H = aIStore (fun ls st => aGo cl none cd_171 0 70 ls st H) ls 5 st) ∧
  (∀ ls st H, aGo cl none cd_171 0 70 ls st H = aRLoad (fun st => aGo cl none cd_171 0 71 ls st H) ls 0 st) ∧
  (∀ ls st H, aGo cl none cd_171 0 71 ls st H = aILoad (fun st => aGo cl none cd_171 0 73 ls st H) ls 5 st) ∧
  (∀ ls st H, aGo cl none cd_171 0 73 ls st H = aGo cl none cd_171 0 74 ls (.int 0 :: st) H) ∧
  (∀ ls st H, aGo cl none cd_171 0 74 ls st H = aILoad (fun st => aGo cl none cd_171 0 75 ls st H) ls 1 st) ∧
  (∀ ls st H, aGo cl none cd_171 0 75 ls st H = aCallV (fun st H => aGo cl none cd_171 0 78 ls st H) cl 127 3 8 H st) ∧
  (∀ ls st H, aGo cl none cd_171 0 78 ls st H = aRLoad (fun st => aGo cl none cd_171 0 79 ls st H) ls 0 st) ∧
  (∀ ls st H, aGo cl none cd_171 0 79 ls st H = aILoad (fun st => aGo cl none cd_171 0 81 ls st H) ls 5 st) ∧
  (∀ ls st H, aGo cl none cd_171 0 81 ls st H = aGo cl none cd_171 0 82 ls (.int 1 :: st) H) ∧
  (∀ ls st H, aGo cl none cd_171 0 82 ls st H = aILoad (fun st => aGo cl none cd_171 0 83 ls st H) ls 2 st) ∧
  (∀ ls st H, aGo cl none cd_171 0 83 ls st H = aCallV (fun st H => aGo cl none cd_171 0 86 ls st H) cl 127 3 8 H st) ∧
  (∀ ls st H, aGo cl none cd_171 0 86 ls st H = aRLoad (fun st => aGo cl none cd_171 0 87 ls st H) ls 0 st) ∧
  (∀ ls st H, aGo cl none cd_171 0 87 ls st H = aILoad (fun st => aGo cl none cd_171 0 89 ls st H) ls 5 st) ∧
  (∀ ls st H, aGo cl none cd_171 0 89 ls st H = aGo cl none cd_171 0 90 ls (.int 2 :: st) H) ∧
  (∀ ls st H, aGo cl none cd_171 0 90 ls st H = aILoad (fun st => aGo cl none cd_171 0 91 ls st H) ls 3 st) ∧
  (∀ ls st H, aGo cl none cd_171 0 91 ls st H = aCallV (fun st H => aGo cl none cd_171 0 94 ls st H) cl 127 3 8 H st) ∧
  (∀ ls st H, aGo cl none cd_171 0 94 ls st H = aRLoad (fun st => aGo cl none cd_171 0 95 ls st H) ls 0 st) ∧
  (∀ ls st H, aGo cl none cd_171 0 95 ls st H = aILoad (fun st => aGo cl none cd_171 0 97 ls st H) ls 5 st) ∧
  (∀ ls st H, aGo cl none cd_171 0 97 ls st H = aGo cl none cd_171 0 98 ls (.int 3 :: st) H) ∧
  (∀ ls st H, aGo cl none cd_171 0 98 ls st H = aILoad (fun st => aGo cl none cd_171 0 100 ls st H) ls 4 st) ∧
  (∀ ls st H, aGo cl none cd_171 0 100 ls st H = aCallV (fun st H => aGo cl none cd_171 0 103 ls st H) cl 127 3 8 H st) ∧
  (∀ ls st H, aGo cl none cd_171 0 103 ls st H = aRLoad (fun st => aGo cl none cd_171 0 104 ls st H) ls 0 st) ∧
  (∀ ls st H, aGo cl none cd_171 0 104 ls st H = aILoad (fun st => aGo cl none cd_171 0 106 ls st H) ls 5 st) ∧
  (∀ ls st H, aGo cl none cd_171 0 106 ls st H = aGo cl none cd_171 0 107 ls (.int 4 :: st) H) ∧
  (∀ ls st H, aGo cl none cd_171 0 107 ls st H = aGo cl none cd_171 0 108 ls (.int 0 :: st) H) ∧
  (∀ ls st H, aGo cl none cd_171 0 108 ls st H = aCallV (fun st H => aGo cl none cd_171 0 111 ls st H) cl 127 3 8 H st) ∧
  (∀ ls st H, aGo cl none cd_171 0 111 ls st H = aRLoad (fun st => aGo cl none cd_171 0 112 ls st H) ls 0 st) ∧
  (∀ ls st H, aGo cl none cd_171 0 112 ls st H = aILoad (fun st => aGo cl none cd_171 0 114 ls st H) ls 5 st) ∧
  (∀ ls st H, aGo cl none cd_171 0 114 ls st H = aGo cl none cd_171 0 115 ls (.int 5 :: st) H) ∧
  (∀ ls st H, aGo cl none cd_171 0 115 ls st H = aGo cl none cd_171 0 116 ls (.int 1 :: st) H) ∧
  (∀ ls st H, aGo cl none cd_171 0 116 ls st H = aCallV (fun st H => aGo cl none cd_171 0 119 ls st H) cl 127 3 8 H st) ∧
  (∀ ls st H, aGo cl none cd_171 0 119 ls st H = aRLoad (fun st => aGo cl none cd_171 0 120 ls st H) ls 0 st) ∧
  (∀ ls st H, aGo cl none cd_171 0 120 ls st H = aILoad (fun st => aGo cl none cd_171 0 122 ls st H) ls 5 st) ∧
  (∀ ls st H, aGo cl none cd_171 0 122 ls st H = aGo cl none cd_171 0 124 ls (.int 6 :: st) H) ∧
  (∀ ls st H, aGo cl none cd_171 0 124 ls st H = aGo cl none cd_171 0 125 ls (.int (-1) :: st) H) ∧
  (∀ ls st H, aGo cl none cd_171 0 125 ls st H = aCallV (fun st H => aGo cl none cd_171 0 128 ls st H) cl 127 3 8 H st) ∧
  (∀ ls st H, aGo cl none cd_171 0 128 ls st H = aRLoad (fun st => aGo cl none cd_171 0 129 ls st H) ls 0 st) ∧
  (∀ ls st H, aGo cl none cd_171 0 129 ls st H = aGet (fun st => aGo cl none cd_171 0 132 ls st H) 8 0 H st) ∧
  (∀ ls st H, aGo cl none cd_171 0 132 ls st H = aGo cl none cd_171 0 134 ls (.int 8 :: st) H) ∧
  (∀ ls st H, aGo cl none cd_171 0 134 ls st H = aDup2 (fun st => aGo cl none cd_171 0 135 ls st H) st) ∧
  (∀ ls st H, aGo cl none cd_171 0 135 ls st H = aIald (fun st => aGo cl none cd_171 0 136 ls st H) none H st) ∧
  (∀ ls st H, aGo cl none cd_171 0 136 ls st H = aGo cl none cd_171 0 137 ls (.int 1 :: st) H) ∧
  (∀ ls st H, aGo cl none cd_171 0 137 ls st H = aBin (fun st => aGo cl none cd_171 0 138 ls st H) (fun x y => x + y) st) ∧
  (∀ ls st H, aGo cl none cd_171 0 138 ls st H = aIast (fun st H => aGo cl none cd_171 0 139 ls st H) H st) ∧
  (∀ ls st H, aGo cl none cd_171 0 139 ls st H = aILoad (fun st => aGo cl none cd_171 0 141 ls st H) ls 5 st) ∧
  (∀ ls st H, aGo cl none cd_171 0 141 ls st H = aIret 0 st H) :=
  ⟨fun _ _ _ => (aGo_s rfl).trans rfl, fun _ _ _ => (aGo_s rfl).trans rfl, fun _ _ _ => (aGo_s rfl).trans rfl, fun _ _ _ => (aGo_s rfl).trans rfl, fun _ _ _ => (aGo_s rfl).trans rfl, fun _ _ _ => (aGo_s rfl).trans rfl, fun _ _ _ => (aGo_s rfl).trans rfl, fun _ _ _ => (aGo_s rfl).trans rfl, fun _ _ _ => (aGo_s rfl).trans rfl, fun _ _ _ => (aGo_s rfl).trans rfl, fun _ _ _ => (aGo_s rfl).trans rfl, fun _ _ _ => (aGo_s rfl).trans rfl, fun _ _ _ => (aGo_s rfl).trans rfl, fun _ _ _ => (aGo_s rfl).trans rfl, fun _ _ _ => (aGo_s rfl).trans rfl, fun _ _ _ => (aGo_s rfl).trans rfl, fun _ _ _ => (aGo_s rfl).trans rfl, fun _ _ _ => (aGo_s rfl).trans rfl, fun _ _ _ => (aGo_s rfl).trans rfl, fun _ _ _ => (aGo_s rfl).trans rfl, fun _ _ _ => (aGo_s rfl).trans rfl, fun _ _ _ => (aGo_s rfl).trans rfl, fun _ _ _ => (aGo_s rfl).trans rfl, fun _ _ _ => (aGo_s rfl).trans rfl, fun _ _ _ => (aGo_s rfl).trans rfl, fun _ _ _ => (aGo_s rfl).trans rfl, fun _ _ _ => (aGo_s rfl).trans rfl, fun _ _ _ => (aGo_s rfl).trans rfl, fun _ _ _ => (aGo_s rfl).trans rfl, fun _ _ _ => (aGo_s rfl).trans rfl, fun _ _ _ => (aGo_s rfl).trans rfl, fun _ _ _ => (aGo_s rfl).trans rfl, fun _ _ _ => (aGo_s rfl).trans rfl, fun _ _ _ => (aGo_s rfl).trans rfl, fun _ _ _ => (aGo_s rfl).trans rfl, fun _ _ _ => (aGo_s rfl).trans rfl, fun _ _ _ => (aGo_s rfl).trans rfl, fun _ _ _ => (aGo_s rfl).trans rfl, fun _ _ _ => (aGo_s rfl).trans rfl, fun _ _ _ => (aGo_s rfl).trans rfl, fun _ _ _ => (aGo_s rfl).trans rfl, fun _ _ _ => (aGo_s rfl).trans rfl, fun _ _ _ => (aGo_s rfl).trans rfl, fun _ _ _ => (aGo_s rfl).trans rfl, fun _ _ _ => (aGo_s rfl).trans rfl, fun _ _ _ => (aGo_s rfl).trans rfl, fun _ _ _ => (aGo_s rfl).trans rfl, fun _ _ _ => (aGo_s rfl).trans rfl, fun _ _ _ => (aGo_s rfl).trans rfl, fun _ _ _ => (aGo_s rfl).trans rfl, fun _ _ _ => (aGo_s rfl).trans rfl, fun _ _ _ => (aGo_s rfl).trans rfl, fun _ _ _ => (aGo_s rfl).trans rfl, fun _ _ _ => (aGo_s rfl).trans rfl, fun _ _ _ => (aGo_s rfl).trans rfl, fun _ _ _ => (aGo_s rfl).trans rfl, fun _ _ _ => (aGo_s rfl).trans rfl, fun _ _ _ => (aGo_s rfl).trans rfl, fun _ _ _ => (aGo_s rfl).trans rfl, fun _ _ _ => (aGo_s rfl).trans rfl, fun _ _ _ => (aGo_s rfl).trans rfl, fun _ _ _ => (aGo_s rfl).trans rfl, fun _ _ _ => (aGo_s rfl).trans rfl, fun _ _ _ => (aGo_s rfl).trans rfl, fun _ _ _ => (aGo_s rfl).trans rfl, fun _ _ _ => (aGo_s rfl).trans rfl, fun _ _ _ => (aGo_s rfl).trans rfl, fun _ _ _ => (aGo_s rfl).trans rfl, fun _ _ _ => (aGo_s rfl).trans rfl, fun _ _ _ => (aGo_s rfl).trans rfl, fun _ _ _ => (aGo_s rfl).trans rfl, fun _ _ _ => (aGo_s rfl).trans rfl, fun _ _ _ => (aGo_s rfl).trans rfl, fun _ _ _ => (aGo_s rfl).trans rfl, fun _ _ _ => (aGo_s rfl).trans rfl, fun _ _ _ => (aGo_s rfl).trans rfl, fun _ _ _ => (aGo_s rfl).trans rfl, fun _ _ _ => (aGo_s rfl).trans rfl, fun _ _ _ => (aGo_s rfl).trans rfl, fun _ _ _ => (aGo_s rfl).trans rfl, fun _ _ _ => (aGo_s rfl).trans rfl, fun _ _ _ => (aGo_s rfl).trans rfl, fun _ _ _ => (aGo_s rfl).trans rfl⟩
theorem e_171 {d : Nat} {x0 : Nat} {x1 : Int32} {x2 : Int32} {x3 : Int32} {x4 : Int32} {H : aH} : aCall aMt (d + 1) 171 [.ref x0, .int x1, .int x2, .int x3, .int x4] H = aGo (aCall aMt d) none cd_171 0 0 [some (.ref x0), some (.int x1), some (.int x2), some (.int x3), some (.int x4), none] [] H := (c_0 rfl ⟨rfl, Nat.le_of_ble_eq_true rfl, Nat.le_of_ble_eq_true rfl⟩).trans rfl
theorem s_172 {cl : Nat → List Value → aH → aRs} : (∀ ls st H, aGo cl none cd_172 0 0 ls st H = aRLoad (fun st => aGo cl none cd_172 0 1 ls st H) ls 0 st) ∧
  (∀ ls st H, aGo cl none cd_172 0 1 ls st H = aILoad (fun st => aGo cl none cd_172 0 2 ls st H) ls 1 st) ∧
  (∀ ls st H, aGo cl none cd_172 0 2 ls st H = aCallV (fun st H => aGo cl none cd_172 0 5 ls st H) cl 123 1 8 H st) ∧
  (∀ ls st H, aGo cl none cd_172 0 5 ls st H = aIf (fun p st => aGo cl none cd_172 0 p ls st H) .eq 18 8 st) ∧
  (∀ ls st H, aGo cl none cd_172 0 8 ls st H = aILoad (fun st => aGo cl none cd_172 0 9 ls st H) ls 2 st) ∧
  (∀ ls st H, aGo cl none cd_172 0 9 ls st H = aGo cl none cd_172 0 10 ls (.int 0 :: st) H) ∧
  (∀ ls st H, aGo cl none cd_172 0 10 ls st H = aGo cl none cd_172 0 12 ls (.int 7 :: st) H) ∧
  (∀ ls st H, aGo cl none cd_172 0 12 ls st H = aCallI (fun st H => aGo cl none cd_172 0 15 ls st H) cl 117 3 H st) ∧
  (∀ ls st H, aGo cl none cd_172 0 15 ls st H = aIf (fun p st => aGo cl none cd_172 0 p ls st H) .ne 24 18 st) ∧
  (∀ ls st H, aGo cl none cd_172 0 18 ls st H = aRLoad (fun st => aGo cl none cd_172 0 19 ls st H) ls 0 st) ∧
  (∀ ls st H, aGo cl none cd_172 0 19 ls st H = aGo cl none cd_172 0 20 ls (.int 1 :: st) H) ∧
  (∀ ls st H, aGo cl none cd_172 0 20 ls st H = aCallV (fun st H => aGo cl none cd_172 0 23 ls st H) cl 116 1 8 H st) ∧
  (∀ ls st H, aGo cl none cd_172 0 23 ls st H = aIret 0 st H) ∧
  (∀ ls st H, aGo cl none cd_172 0 24 ls st H = aILoad (fun st => aGo cl none cd_172 0 25 ls st H) ls 2 st) ∧
  (∀ ls st H, aGo cl none cd_172 0 25 ls st H = aSwS (fun p st => aGo cl none cd_172 0 p ls st H) [(4, 56), (5, 63), (6, 71), (7, 78)] 84 st) ∧
  (∀ ls st H, aGo cl none cd_172 0 56 ls st H = aRLoad (fun st => aGo cl none cd_172 0 57 ls st H) ls 0 st) ∧
  (∀ ls st H, aGo cl none cd_172 0 57 ls st H = aILoad (fun st => aGo cl none cd_172 0 58 ls st H) ls 1 st) ∧
  (∀ ls st H, aGo cl none cd_172 0 58 ls st H = aGo cl none cd_172 0 59 ls (.int 5 :: st) H) ∧
  (∀ ls st H, aGo cl none cd_172 0 59 ls st H = aCallV (fun st H => aGo cl none cd_172 0 62 ls st H) cl 126 2 8 H st) ∧
  (∀ ls st H, aGo cl none cd_172 0 62 ls st H = aIret 0 st H) ∧
  (∀ ls st H, aGo cl none cd_172 0 63 ls st H = aRLoad (fun st => aGo cl none cd_172 0 64 ls st H) ls 0 st) ∧
  (∀ ls st H, aGo cl none cd_172 0 64 ls st H = aILoad (fun st => aGo cl none cd_172 0 65 ls st H) ls 1 st) ∧
  (∀ ls st H, aGo cl none cd_172 0 65 ls st H = aGo cl none cd_172 0 67 ls (.int 6 :: st) H) ∧
  (∀ ls st H, aGo cl none cd_172 0 67 ls st H = aCallV (fun st H => aGo cl none cd_172 0 70 ls st H) cl 126 2 8 H st) ∧
  (∀ ls st H, aGo cl none cd_172 0 70 ls st H = aIret 0 st H) ∧
  (∀ ls st H, aGo cl none cd_172 0 71 ls st H = aRLoad (fun st => aGo cl none cd_172 0 72 ls st H) ls 0 st) ∧
  (∀ ls st H, aGo cl none cd_172 0 72 ls st H = aILoad (fun st => aGo cl none cd_172 0 73 ls st H) ls 1 st) ∧
  (∀ ls st H, aGo cl none cd_172 0 73 ls st H = aGo cl none cd_172 0 74 ls (.int 4 :: st) H) ∧
  (∀ ls st H, aGo cl none cd_172 0 74 ls st H = aCallV (fun st H => aGo cl none cd_172 0 77 ls st H) cl 126 2 8 H st) ∧
  (∀ ls st H, aGo cl none cd_172 0 77 ls st H = aIret 0 st H) ∧
  (∀ ls st H, aGo cl none cd_172 0 78 ls st H = aRLoad (fun st => aGo cl none cd_172 0 79 ls st H) ls 0 st) ∧
  (∀ ls st H, aGo cl none cd_172 0 79 ls st H = aILoad (fun st => aGo cl none cd_172 0 80 ls st H) ls 1 st) ∧
  (∀ ls st H, aGo cl none cd_172 0 80 ls st H = aCallV (fun st H => aGo cl none cd_172 0 83 ls st H) cl 149 1 8 H st) ∧
  (∀ ls st H, aGo cl none cd_172 0 83 ls st H = aIret 0 st H) ∧
  (∀ ls st H, aGo cl none cd_172 0 84 ls st H = aRLoad (fun st => aGo cl none cd_172 0 85 ls st H) ls 0 st) ∧
  (∀ ls st H, aGo cl none cd_172 0 85 ls st H = aILoad (fun st => aGo cl none cd_172 0 86 ls st H) ls 1 st) ∧
  (∀ ls st H, aGo cl none cd_172 0 86 ls st H = aILoad (fun st => aGo cl none cd_172 0 87 ls st H) ls 2 st) ∧
  (∀ ls st H, aGo cl none cd_172 0 87 ls st H = aCallV (fun st H => aGo cl none cd_172 0 90 ls st H) cl 126 2 8 H st) ∧
  (∀ ls st H, aGo cl none cd_172 0 90 ls st H = aIret 0 st H) :=
  ⟨fun _ _ _ => (aGo_s rfl).trans rfl, fun _ _ _ => (aGo_s rfl).trans rfl, fun _ _ _ => (aGo_s rfl).trans rfl, fun _ _ _ => (aGo_s rfl).trans rfl, fun _ _ _ => (aGo_s rfl).trans rfl, fun _ _ _ => (aGo_s rfl).trans rfl, fun _ _ _ => (aGo_s rfl).trans rfl, fun _ _ _ => (aGo_s rfl).trans rfl, fun _ _ _ => (aGo_s rfl).trans rfl, fun _ _ _ => (aGo_s rfl).trans rfl, fun _ _ _ => (aGo_s rfl).trans rfl, fun _ _ _ => (aGo_s rfl).trans rfl, fun _ _ _ => (aGo_s rfl).trans rfl, fun _ _ _ => (aGo_s rfl).trans rfl, fun _ _ _ => (aGo_s rfl).trans rfl, fun _ _ _ => (aGo_s rfl).trans rfl, fun _ _ _ => (aGo_s rfl).trans rfl, fun _ _ _ => (aGo_s rfl).trans rfl, fun _ _ _ => (aGo_s rfl).trans rfl, fun _ _ _ => (aGo_s rfl).trans rfl, fun _ _ _ => (aGo_s rfl).trans rfl, fun _ _ _ => (aGo_s rfl).trans rfl, fun _ _ _ => (aGo_s rfl).trans rfl, fun _ _ _ => (aGo_s rfl).trans rfl, fun _ _ _ => (aGo_s rfl).trans rfl, fun _ _ _ => (aGo_s rfl).trans rfl, fun _ _ _ => (aGo_s rfl).trans rfl, fun _ _ _ => (aGo_s rfl).trans rfl, fun _ _ _ => (aGo_s rfl).trans rfl, fun _ _ _ => (aGo_s rfl).trans rfl, fun _ _ _ => (aGo_s rfl).trans rfl, fun _ _ _ => (aGo_s rfl).trans rfl, fun _ _ _ => (aGo_s rfl).trans rfl, fun _ _ _ => (aGo_s rfl).trans rfl, fun _ _ _ => (aGo_s rfl).trans rfl, fun _ _ _ => (aGo_s rfl).trans rfl, fun _ _ _ => (aGo_s rfl).trans rfl, fun _ _ _ => (aGo_s rfl).trans rfl, fun _ _ _ => (aGo_s rfl).trans rfl⟩
theorem e_172 {d : Nat} {x0 : Nat} {x1 : Int32} {x2 : Int32} {H : aH} : aCall aMt (d + 1) 172 [.ref x0, .int x1, .int x2] H = aGo (aCall aMt d) none cd_172 0 0 [some (.ref x0), some (.int x1), some (.int x2)] [] H := (c_0 rfl ⟨rfl, Nat.le_of_ble_eq_true rfl, Nat.le_of_ble_eq_true rfl⟩).trans rfl
theorem s_173 {cl : Nat → List Value → aH → aRs} : (∀ ls st H, aGo cl none cd_173 0 0 ls st H = aRLoad (fun st => aGo cl none cd_173 0 1 ls st H) ls 0 st) ∧
  (∀ ls st H, aGo cl none cd_173 0 1 ls st H = aILoad (fun st => aGo cl none cd_173 0 2 ls st H) ls 1 st) ∧
  (∀ ls st H, aGo cl none cd_173 0 2 ls st H = aCallV (fun st H => aGo cl none cd_173 0 5 ls st H) cl 123 1 8 H st) ∧
  (∀ ls st H, aGo cl none cd_173 0 5 ls st H = aIf (fun p st => aGo cl none cd_173 0 p ls st H) .eq 31 8 st) ∧
  (∀ ls st H, aGo cl none cd_173 0 8 ls st H = aILoad (fun st => aGo cl none cd_173 0 9 ls st H) ls 2 st) ∧
  (∀ ls st H, aGo cl none cd_173 0 9 ls st H = aGo cl none cd_173 0 10 ls (.int 0 :: st) H) ∧
  (∀ ls st H, aGo cl none cd_173 0 10 ls st H = aGo cl none cd_173 0 11 ls (.int 3 :: st) H) ∧
  (∀ ls st H, aGo cl none cd_173 0 11 ls st H = aCallI (fun st H => aGo cl none cd_173 0 14 ls st H) cl 117 3 H st) ∧
  (∀ ls st H, aGo cl none cd_173 0 14 ls st H = aIf (fun p st => aGo cl none cd_173 0 p ls st H) .eq 31 17 st) ∧
  (∀ ls st H, aGo cl none cd_173 0 17 ls st H = aILoad (fun st => aGo cl none cd_173 0 18 ls st H) ls 3 st) ∧
  (∀ ls st H, aGo cl none cd_173 0 18 ls st H = aGo cl none cd_173 0 19 ls (.int 0 :: st) H) ∧
  (∀ ls st H, aGo cl none cd_173 0 19 ls st H = aGo cl none cd_173 0 20 ls (.int 1 :: st) H) ∧
  (∀ ls st H, aGo cl none cd_173 0 20 ls st H = aILoad (fun st => aGo cl none cd_173 0 21 ls st H) ls 2 st) ∧
  (∀ ls st H, aGo cl none cd_173 0 21 ls st H = aBin (fun st => aGo cl none cd_173 0 22 ls st H) (fun x y => x + y) st) ∧
  (∀ ls st H, aGo cl none cd_173 0 22 ls st H = aCallI (fun st H => aGo cl none cd_173 0 25 ls st H) cl 170 1 H st) ∧
  (∀ ls st H, aGo cl none cd_173 0 25 ls st H = aCallI (fun st H => aGo cl none cd_173 0 28 ls st H) cl 117 3 H st) ∧
  (∀ ls st H, aGo cl none cd_173 0 28 ls st H = aIf (fun p st => aGo cl none cd_173 0 p ls st H) .ne 37 31 st) ∧
  (∀ ls st H, aGo cl none cd_173 0 31 ls st H = aRLoad (fun st => aGo cl none cd_173 0 32 ls st H) ls 0 st) ∧
  (∀ ls st H, aGo cl none cd_173 0 32 ls st H = aGo cl none cd_173 0 33 ls (.int 1 :: st) H) ∧
  (∀ ls st H, aGo cl none cd_173 0 33 ls st H = aCallV (fun st H => aGo cl none cd_173 0 36 ls st H) cl 116 1 8 H st) ∧
  (∀ ls st H, aGo cl none cd_173 0 36 ls st H = aIret 0 st H) ∧
  (∀ ls st H, aGo cl none cd_173 0 37 ls st H = aRLoad (fun st => aGo cl none cd_173 0 38 ls st H) ls 0 st) ∧
  (∀ ls st H, aGo cl none cd_173 0 38 ls st H = aILoad (fun st => aGo cl none cd_173 0 39 ls st H) ls 1 st) ∧
  (∀ ls st H, aGo cl none cd_173 0 39 ls st H = aCallV (fun st H => aGo cl none cd_173 0 42 ls st H) cl 129 1 8 H st) ∧
  (∀ ls st H, aGo cl none cd_173 0 42 ls st H = aIf (fun p st => aGo cl none cd_173 0 p ls st H) .ne 51 45 st) ∧
  (∀ ls st H, aGo cl none cd_173 0 45 ls st H = aRLoad (fun st => aGo cl none cd_173 0 46 ls st H) ls 0 st) ∧
  (∀ ls st H, aGo cl none cd_173 0 46 ls st H = aGo cl none cd_173 0 47 ls (.int 3 :: st) H) ∧
  (∀ ls st H, aGo cl none cd_173 0 47 ls st H = aCallV (fun st H => aGo cl none cd_173 0 50 ls st H) cl 116 1 8 H st) ∧
  (∀ ls st H, aGo cl none cd_173 0 50 ls st H = aIret 0 st H) ∧
  (∀ ls st H, aGo cl none cd_173 0 51 ls st H = aRLoad (fun st => aGo cl none cd_173 0 52 ls st H) ls 0 st) ∧
  (∀ ls st H, aGo cl none cd_173 0 52 ls st H = aGo cl none cd_173 0 54 ls (.int 50 :: st) H) ∧
  (∀ ls st H, aGo cl none cd_173 0 54 ls st H = aGo cl none cd_173 0 56 ls (.int 7 :: st) H) ∧
  (∀ ls st H, aGo cl none cd_173 0 56 ls st H = aILoad (fun st => aGo cl none cd_173 0 57 ls st H) ls 1 st) ∧
  (∀ ls st H, aGo cl none cd_173 0 57 ls st H = aBin (fun st => aGo cl none cd_173 0 58 ls st H) (fun x y => x * y) st) ∧
  (∀ ls st H, aGo cl none cd_173 0 58 ls st H = aBin (fun st => aGo cl none cd_173 0 59 ls st H) (fun x y => x + y) st) ∧
  (∀ ls st H, aGo cl none cd_173 0 59 ls st H = aGo cl none cd_173 0 60 ls (.int 1 :: st) H) ∧
  (∀ ls st H, aGo cl none cd_173 0 60 ls st H = aBin (fun st => aGo cl none cd_173 0 61 ls st H) (fun x y => x + y) st) ∧
  (∀ ls st H, aGo cl none cd_173 0 61 ls st H = aILoad (fun st => aGo cl none cd_173 0 62 ls st H) ls 2 st) ∧
  (∀ ls st H, aGo cl none cd_173 0 62 ls st H = aBin (fun st => aGo cl none cd_173 0 63 ls st H) (fun x y => x + y) st) ∧
  (∀ ls st H, aGo cl none cd_173 0 63 ls st H = aILoad (fun st => aGo cl none cd_173 0 64 ls st H) ls 3 st) ∧
  (∀ ls st H, aGo cl none cd_173 0 64 ls st H = aCallV (fun st H => aGo cl none cd_173 0 67 ls st H) cl 128 2 8 H st) ∧
  (∀ ls st H, aGo cl none cd_173 0 67 ls st H = aIret 0 st H) :=
  ⟨fun _ _ _ => (aGo_s rfl).trans rfl, fun _ _ _ => (aGo_s rfl).trans rfl, fun _ _ _ => (aGo_s rfl).trans rfl, fun _ _ _ => (aGo_s rfl).trans rfl, fun _ _ _ => (aGo_s rfl).trans rfl, fun _ _ _ => (aGo_s rfl).trans rfl, fun _ _ _ => (aGo_s rfl).trans rfl, fun _ _ _ => (aGo_s rfl).trans rfl, fun _ _ _ => (aGo_s rfl).trans rfl, fun _ _ _ => (aGo_s rfl).trans rfl, fun _ _ _ => (aGo_s rfl).trans rfl, fun _ _ _ => (aGo_s rfl).trans rfl, fun _ _ _ => (aGo_s rfl).trans rfl, fun _ _ _ => (aGo_s rfl).trans rfl, fun _ _ _ => (aGo_s rfl).trans rfl, fun _ _ _ => (aGo_s rfl).trans rfl, fun _ _ _ => (aGo_s rfl).trans rfl, fun _ _ _ => (aGo_s rfl).trans rfl, fun _ _ _ => (aGo_s rfl).trans rfl, fun _ _ _ => (aGo_s rfl).trans rfl, fun _ _ _ => (aGo_s rfl).trans rfl, fun _ _ _ => (aGo_s rfl).trans rfl, fun _ _ _ => (aGo_s rfl).trans rfl, fun _ _ _ => (aGo_s rfl).trans rfl, fun _ _ _ => (aGo_s rfl).trans rfl, fun _ _ _ => (aGo_s rfl).trans rfl, fun _ _ _ => (aGo_s rfl).trans rfl, fun _ _ _ => (aGo_s rfl).trans rfl, fun _ _ _ => (aGo_s rfl).trans rfl, fun _ _ _ => (aGo_s rfl).trans rfl, fun _ _ _ => (aGo_s rfl).trans rfl, fun _ _ _ => (aGo_s rfl).trans rfl, fun _ _ _ => (aGo_s rfl).trans rfl, fun _ _ _ => (aGo_s rfl).trans rfl, fun _ _ _ => (aGo_s rfl).trans rfl, fun _ _ _ => (aGo_s rfl).trans rfl, fun _ _ _ => (aGo_s rfl).trans rfl, fun _ _ _ => (aGo_s rfl).trans rfl, fun _ _ _ => (aGo_s rfl).trans rfl, fun _ _ _ => (aGo_s rfl).trans rfl, fun _ _ _ => (aGo_s rfl).trans rfl, fun _ _ _ => (aGo_s rfl).trans rfl⟩
theorem e_173 {d : Nat} {x0 : Nat} {x1 : Int32} {x2 : Int32} {x3 : Int32} {H : aH} : aCall aMt (d + 1) 173 [.ref x0, .int x1, .int x2, .int x3] H = aGo (aCall aMt d) none cd_173 0 0 [some (.ref x0), some (.int x1), some (.int x2), some (.int x3)] [] H := (c_0 rfl ⟨rfl, Nat.le_of_ble_eq_true rfl, Nat.le_of_ble_eq_true rfl⟩).trans rfl
theorem s_174 {cl : Nat → List Value → aH → aRs} : (∀ ls st H, aGo cl none cd_174 0 0 ls st H = aRLoad (fun st => aGo cl none cd_174 0 1 ls st H) ls 0 st) ∧
  (∀ ls st H, aGo cl none cd_174 0 1 ls st H = aILoad (fun st => aGo cl none cd_174 0 2 ls st H) ls 1 st) ∧
  (∀ ls st H, aGo cl none cd_174 0 2 ls st H = aCallV (fun st H => aGo cl none cd_174 0 5 ls st H) cl 123 1 8 H st) ∧
  (∀ ls st H, aGo cl none cd_174 0 5 ls st H = aIf (fun p st => aGo cl none cd_174 0 p ls st H) .ne 14 8 st) ∧
  (∀ ls st H, aGo cl none cd_174 0 8 ls st H = aRLoad (fun st => aGo cl none cd_174 0 9 ls st H) ls 0 st) ∧
  (∀ ls st H, aGo cl none cd_174 0 9 ls st H = aGo cl none cd_174 0 10 ls (.int 1 :: st) H) ∧
  (∀ ls st H, aGo cl none cd_174 0 10 ls st H = aCallV (fun st H => aGo cl none cd_174 0 13 ls st H) cl 116 1 8 H st) ∧
  (∀ ls st H, aGo cl none cd_174 0 13 ls st H = aIret 0 st H) ∧
  (∀ ls st H, aGo cl none cd_174 0 14 ls st H = aRLoad (fun st => aGo cl none cd_174 0 15 ls st H) ls 0 st) ∧
  (∀ ls st H, aGo cl none cd_174 0 15 ls st H = aILoad (fun st => aGo cl none cd_174 0 16 ls st H) ls 1 st) ∧
  (∀ ls st H, aGo cl none cd_174 0 16 ls st H = aCallV (fun st H => aGo cl none cd_174 0 19 ls st H) cl 129 1 8 H st) ∧
  (∀ ls st H, aGo cl none cd_174 0 19 ls st H = aIf (fun p st => aGo cl none cd_174 0 p ls st H) .eq 28 22 st) ∧
  (∀ ls st H, aGo cl none cd_174 0 22 ls st H = aRLoad (fun st => aGo cl none cd_174 0 23 ls st H) ls 0 st) ∧
  (∀ ls st H, aGo cl none cd_174 0 23 ls st H = aGo cl none cd_174 0 24 ls (.int 3 :: st) H) ∧
  (∀ ls st H, aGo cl none cd_174 0 24 ls st H = aCallV (fun st H => aGo cl none cd_174 0 27 ls st H) cl 116 1 8 H st) ∧
  (∀ ls st H, aGo cl none cd_174 0 27 ls st H = aIret 0 st H) ∧
  (∀ ls st H, aGo cl none cd_174 0 28 ls st H = aRLoad (fun st => aGo cl none cd_174 0 29 ls st H) ls 0 st) ∧
  (∀ ls st H, aGo cl none cd_174 0 29 ls st H = aILoad (fun st => aGo cl none cd_174 0 30 ls st H) ls 1 st) ∧
  (∀ ls st H, aGo cl none cd_174 0 30 ls st H = aGo cl none cd_174 0 31 ls (.int 5 :: st) H) ∧
  (∀ ls st H, aGo cl none cd_174 0 31 ls st H = aGo cl none cd_174 0 32 ls (.int 1 :: st) H) ∧
  (∀ ls st H, aGo cl none cd_174 0 32 ls st H = aCallV (fun st H => aGo cl none cd_174 0 35 ls st H) cl 127 3 8 H st) ∧
  (∀ ls st H, aGo cl none cd_174 0 35 ls st H = aRLoad (fun st => aGo cl none cd_174 0 36 ls st H) ls 0 st) ∧
  (∀ ls st H, aGo cl none cd_174 0 36 ls st H = aILoad (fun st => aGo cl none cd_174 0 37 ls st H) ls 1 st) ∧
  (∀ ls st H, aGo cl none cd_174 0 37 ls st H = aGo cl none cd_174 0 39 ls (.int 6 :: st) H) ∧
  (∀ ls st H, aGo cl none cd_174 0 39 ls st H = aGo cl none cd_174 0 40 ls (.int (-1) :: st) H) ∧
  (∀ ls st H, aGo cl none cd_174 0 40 ls st H = aCallV (fun st H => aGo cl none cd_174 0 43 ls st H) cl 127 3 8 H st) ∧
  (∀ ls st H, aGo cl none cd_174 0 43 ls st H = aRLoad (fun st => aGo cl none cd_174 0 44 ls st H) ls 0 st) ∧
  (∀ ls st H, aGo cl none cd_174 0 44 ls st H = aILoad (fun st => aGo cl none cd_174 0 45 ls st H) ls 1 st) ∧
  (∀ ls st H, aGo cl none cd_174 0 45 ls st H = aGo cl none cd_174 0 46 ls (.int 3 :: st) H) ∧
  (∀ ls st H, aGo cl none cd_174 0 46 ls st H = aGo cl none cd_174 0 47 ls (.int 0 :: st) H) ∧
  (∀ ls st H, aGo cl none cd_174 0 47 ls st H = aCallV (fun st H => aGo cl none cd_174 0 50 ls st H) cl 127 3 8 H st) ∧
  (∀ ls st H, aGo cl none cd_174 0 50 ls st H = aRLoad (fun st => aGo cl none cd_174 0 51 ls st H) ls 0 st) ∧
  (∀ ls st H, aGo cl none cd_174 0 51 ls st H = aCallV (fun st H => aGo cl none cd_174 0 54 ls st H) cl 130 0 8 H st) ∧
  (∀ ls st H, aGo cl none cd_174 0 54 ls st H = aIret 0 st H) :=
  ⟨fun _ _ _ => (aGo_s rfl).trans rfl, fun _ _ _ => (aGo_s rfl).trans rfl, fun _ _ _ => (aGo_s rfl).trans rfl, fun _ _ _ => (aGo_s rfl).trans rfl, fun _ _ _ => (aGo_s rfl).trans rfl, fun _ _ _ => (aGo_s rfl).trans rfl, fun _ _ _ => (aGo_s rfl).trans rfl, fun _ _ _ => (aGo_s rfl).trans rfl, fun _ _ _ => (aGo_s rfl).trans rfl, fun _ _ _ => (aGo_s rfl).trans rfl, fun _ _ _ => (aGo_s rfl).trans rfl, fun _ _ _ => (aGo_s rfl).trans rfl, fun _ _ _ => (aGo_s rfl).trans rfl, fun _ _ _ => (aGo_s rfl).trans rfl, fun _ _ _ => (aGo_s rfl).trans rfl, fun _ _ _ => (aGo_s rfl).trans rfl, fun _ _ _ => (aGo_s rfl).trans rfl, fun _ _ _ => (aGo_s rfl).trans rfl, fun _ _ _ => (aGo_s rfl).trans rfl, fun _ _ _ => (aGo_s rfl).trans rfl, fun _ _ _ => (aGo_s rfl).trans rfl, fun _ _ _ => (aGo_s rfl).trans rfl, fun _ _ _ => (aGo_s rfl).trans rfl, fun _ _ _ => (aGo_s rfl).trans rfl, fun _ _ _ => (aGo_s rfl).trans rfl, fun _ _ _ => (aGo_s rfl).trans rfl, fun _ _ _ => (aGo_s rfl).trans rfl, fun _ _ _ => (aGo_s rfl).trans rfl, fun _ _ _ => (aGo_s rfl).trans rfl, fun _ _ _ => (aGo_s rfl).trans rfl, fun _ _ _ => (aGo_s rfl).trans rfl, fun _ _ _ => (aGo_s rfl).trans rfl, fun _ _ _ => (aGo_s rfl).trans rfl, fun _ _ _ => (aGo_s rfl).trans rfl⟩
theorem e_174 {d : Nat} {x0 : Nat} {x1 : Int32} {H : aH} : aCall aMt (d + 1) 174 [.ref x0, .int x1] H = aGo (aCall aMt d) none cd_174 0 0 [some (.ref x0), some (.int x1)] [] H := (c_0 rfl ⟨rfl, Nat.le_of_ble_eq_true rfl, Nat.le_of_ble_eq_true rfl⟩).trans rfl
theorem s_175 {cl : Nat → List Value → aH → aRs} : (∀ ls st H, aGo cl none cd_175 0 0 ls st H = aILoad (fun st => aGo cl none cd_175 0 1 ls st H) ls 1 st) ∧
  (∀ ls st H, aGo cl none cd_175 0 1 ls st H = aGo cl none cd_175 0 2 ls (.int 0 :: st) H) ∧
  (∀ ls st H, aGo cl none cd_175 0 2 ls st H = aGo cl none cd_175 0 3 ls (.int 1 :: st) H) ∧
  (∀ ls st H, aGo cl none cd_175 0 3 ls st H = aCallI (fun st H => aGo cl none cd_175 0 6 ls st H) cl 117 3 H st) ∧
  (∀ ls st H, aGo cl none cd_175 0 6 ls st H = aIf (fun p st => aGo cl none cd_175 0 p ls st H) .ne 15 9 st) ∧
  (∀ ls st H, aGo cl none cd_175 0 9 ls st H = aRLoad (fun st => aGo cl none cd_175 0 10 ls st H) ls 0 st) ∧
  (∀ ls st H, aGo cl none cd_175 0 10 ls st H = aGo cl none cd_175 0 11 ls (.int 1 :: st) H) ∧
  (∀ ls st H, aGo cl none cd_175 0 11 ls st H = aCallV (fun st H => aGo cl none cd_175 0 14 ls st H) cl 116 1 8 H st) ∧
  (∀ ls st H, aGo cl none cd_175 0 14 ls st H = aIret 0 st H) ∧
  (∀ ls st H, aGo cl none cd_175 0 15 ls st H = aILoad (fun st => aGo cl none cd_175 0 16 ls st H) ls 1 st) ∧
  (∀ ls st H, aGo cl none cd_175 0 16 ls st H = aIf (fun p st => aGo cl none cd_175 0 p ls st H) .ne 30 19 st) ∧
  (∀ ls st H, aGo cl none cd_175 0 19 ls st H = aRLoad (fun st => aGo cl none cd_175 0 20 ls st H) ls 0 st) ∧
  (∀ ls st H, aGo cl none cd_175 0 20 ls st H = aILoad (fun st => aGo cl none cd_175 0 21 ls st H) ls 2 st) ∧
  (∀ ls st H, aGo cl none cd_175 0 21 ls st H = aILoad (fun st => aGo cl none cd_175 0 22 ls st H) ls 3 st) ∧
  (∀ ls st H, aGo cl none cd_175 0 22 ls st H = aILoad (fun st => aGo cl none cd_175 0 24 ls st H) ls 4 st) ∧
  (∀ ls st H, aGo cl none cd_175 0 24 ls st H = aCallV (fun st H => aGo cl none cd_175 0 27 ls st H) cl 147 3 8 H st) ∧
  (∀ ls st H, aGo cl none cd_175 0 27 ls st H = aGo cl none cd_175 0 38 ls st H) ∧
  (∀ ls st H, aGo cl none cd_175 0 30 ls st H = aRLoad (fun st => aGo cl none cd_175 0 31 ls st H) ls 0 st) ∧
  (∀ ls st H, aGo cl none cd_175 0 31 ls st H = aILoad (fun st => aGo cl none cd_175 0 32 ls st H) ls 2 st) ∧
  (∀ ls st H, aGo cl none cd_175 0 32 ls st H = aILoad (fun st => aGo cl none cd_175 0 33 ls st H) ls 3 st) ∧
  (∀ ls st H, aGo cl none cd_175 0 33 ls st H = aILoad (fun st => aGo cl none cd_175 0 35 ls st H) ls 4 st) ∧
  (∀ ls st H, aGo cl none cd_175 0 35 ls st H = aCallV (fun st H => aGo cl none cd_175 0 38 ls st H) cl 148 3 8 H st) ∧
  (∀ ls st H, aGo cl none cd_175 0 38 ls st H = aIret 0 st H) :=
  ⟨fun _ _ _ => (aGo_s rfl).trans rfl, fun _ _ _ => (aGo_s rfl).trans rfl, fun _ _ _ => (aGo_s rfl).trans rfl, fun _ _ _ => (aGo_s rfl).trans rfl, fun _ _ _ => (aGo_s rfl).trans rfl, fun _ _ _ => (aGo_s rfl).trans rfl, fun _ _ _ => (aGo_s rfl).trans rfl, fun _ _ _ => (aGo_s rfl).trans rfl, fun _ _ _ => (aGo_s rfl).trans rfl, fun _ _ _ => (aGo_s rfl).trans rfl, fun _ _ _ => (aGo_s rfl).trans rfl, fun _ _ _ => (aGo_s rfl).trans rfl, fun _ _ _ => (aGo_s rfl).trans rfl, fun _ _ _ => (aGo_s rfl).trans rfl, fun _ _ _ => (aGo_s rfl).trans rfl, fun _ _ _ => (aGo_s rfl).trans rfl, fun _ _ _ => (aGo_s rfl).trans rfl, fun _ _ _ => (aGo_s rfl).trans rfl, fun _ _ _ => (aGo_s rfl).trans rfl, fun _ _ _ => (aGo_s rfl).trans rfl, fun _ _ _ => (aGo_s rfl).trans rfl, fun _ _ _ => (aGo_s rfl).trans rfl, fun _ _ _ => (aGo_s rfl).trans rfl⟩
theorem e_175 {d : Nat} {x0 : Nat} {x1 : Int32} {x2 : Int32} {x3 : Int32} {x4 : Int32} {H : aH} : aCall aMt (d + 1) 175 [.ref x0, .int x1, .int x2, .int x3, .int x4] H = aGo (aCall aMt d) none cd_175 0 0 [some (.ref x0), some (.int x1), some (.int x2), some (.int x3), some (.int x4)] [] H := (c_0 rfl ⟨rfl, Nat.le_of_ble_eq_true rfl, Nat.le_of_ble_eq_true rfl⟩).trans rfl
theorem s_176 {cl : Nat → List Value → aH → aRs} : (∀ ls st H, aGo cl none cd_176 0 0 ls st H = aRLoad (fun st => aGo cl none cd_176 0 1 ls st H) ls 0 st) ∧
  (∀ ls st H, aGo cl none cd_176 0 1 ls st H = aILoad (fun st => aGo cl none cd_176 0 2 ls st H) ls 1 st) ∧
  (∀ ls st H, aGo cl none cd_176 0 2 ls st H = aCallV (fun st H => aGo cl none cd_176 0 5 ls st H) cl 122 1 8 H st) ∧
  (∀ ls st H, aGo cl none cd_176 0 5 ls st H = aIf (fun p st => aGo cl none cd_176 0 p ls st H) .eq 25 8 st) ∧
  (∀ ls st H, aGo cl none cd_176 0 8 ls st H = aRLoad (fun st => aGo cl none cd_176 0 9 ls st H) ls 0 st) ∧
  (∀ ls st H, aGo cl none cd_176 0 9 ls st H = aILoad (fun st => aGo cl none cd_176 0 10 ls st H) ls 2 st) ∧
  (∀ ls st H, aGo cl none cd_176 0 10 ls st H = aCallV (fun st H => aGo cl none cd_176 0 13 ls st H) cl 123 1 8 H st) ∧
  (∀ ls st H, aGo cl none cd_176 0 13 ls st H = aIf (fun p st => aGo cl none cd_176 0 p ls st H) .eq 25 16 st) ∧
  (∀ ls st H, aGo cl none cd_176 0 16 ls st H = aRLoad (fun st => aGo cl none cd_176 0 17 ls st H) ls 0 st) ∧
  (∀ ls st H, aGo cl none cd_176 0 17 ls st H = aILoad (fun st => aGo cl none cd_176 0 18 ls st H) ls 1 st) ∧
  (∀ ls st H, aGo cl none cd_176 0 18 ls st H = aILoad (fun st => aGo cl none cd_176 0 19 ls st H) ls 2 st) ∧
  (∀ ls st H, aGo cl none cd_176 0 19 ls st H = aCallV (fun st H => aGo cl none cd_176 0 22 ls st H) cl 154 2 8 H st) ∧
  (∀ ls st H, aGo cl none cd_176 0 22 ls st H = aGo cl none cd_176 0 30 ls st H) ∧
  (∀ ls st H, aGo cl none cd_176 0 25 ls st H = aRLoad (fun st => aGo cl none cd_176 0 26 ls st H) ls 0 st) ∧
  (∀ ls st H, aGo cl none cd_176 0 26 ls st H = aGo cl none cd_176 0 27 ls (.int 1 :: st) H) ∧
  (∀ ls st H, aGo cl none cd_176 0 27 ls st H = aCallV (fun st H => aGo cl none cd_176 0 30 ls st H) cl 116 1 8 H st) ∧
  (∀ ls st H, aGo cl none cd_176 0 30 ls st H = aIret 0 st H) :=
  ⟨fun _ _ _ => (aGo_s rfl).trans rfl, fun _ _ _ => (aGo_s rfl).trans rfl, fun _ _ _ => (aGo_s rfl).trans rfl, fun _ _ _ => (aGo_s rfl).trans rfl, fun _ _ _ => (aGo_s rfl).trans rfl, fun _ _ _ => (aGo_s rfl).trans rfl, fun _ _ _ => (aGo_s rfl).trans rfl, fun _ _ _ => (aGo_s rfl).trans rfl, fun _ _ _ => (aGo_s rfl).trans rfl, fun _ _ _ => (aGo_s rfl).trans rfl, fun _ _ _ => (aGo_s rfl).trans rfl, fun _ _ _ => (aGo_s rfl).trans rfl, fun _ _ _ => (aGo_s rfl).trans rfl, fun _ _ _ => (aGo_s rfl).trans rfl, fun _ _ _ => (aGo_s rfl).trans rfl, fun _ _ _ => (aGo_s rfl).trans rfl, fun _ _ _ => (aGo_s rfl).trans rfl⟩
theorem e_176 {d : Nat} {x0 : Nat} {x1 : Int32} {x2 : Int32} {H : aH} : aCall aMt (d + 1) 176 [.ref x0, .int x1, .int x2] H = aGo (aCall aMt d) none cd_176 0 0 [some (.ref x0), some (.int x1), some (.int x2)] [] H := (c_0 rfl ⟨rfl, Nat.le_of_ble_eq_true rfl, Nat.le_of_ble_eq_true rfl⟩).trans rfl
theorem s_177 {cl : Nat → List Value → aH → aRs} : (∀ ls st H, aGo cl none cd_177 0 0 ls st H = aRLoad (fun st => aGo cl none cd_177 0 1 ls st H) ls 0 st) ∧
  (∀ ls st H, aGo cl none cd_177 0 1 ls st H = aILoad (fun st => aGo cl none cd_177 0 2 ls st H) ls 1 st) ∧
  (∀ ls st H, aGo cl none cd_177 0 2 ls st H = aCallV (fun st H => aGo cl none cd_177 0 5 ls st H) cl 123 1 8 H st) ∧
  (∀ ls st H, aGo cl none cd_177 0 5 ls st H = aIf (fun p st => aGo cl none cd_177 0 p ls st H) .eq 26 8 st) ∧
  (∀ ls st H, aGo cl none cd_177 0 8 ls st H = aILoad (fun st => aGo cl none cd_177 0 9 ls st H) ls 2 st) ∧
  (∀ ls st H, aGo cl none cd_177 0 9 ls st H = aGo cl none cd_177 0 10 ls (.int 0 :: st) H) ∧
  (∀ ls st H, aGo cl none cd_177 0 10 ls st H = aGo cl none cd_177 0 11 ls (.int 1 :: st) H) ∧
  (∀ ls st H, aGo cl none cd_177 0 11 ls st H = aCallI (fun st H => aGo cl none cd_177 0 14 ls st H) cl 117 3 H st) ∧
  (∀ ls st H, aGo cl none cd_177 0 14 ls st H = aIf (fun p st => aGo cl none cd_177 0 p ls st H) .eq 26 17 st) ∧
  (∀ ls st H, aGo cl none cd_177 0 17 ls st H = aRLoad (fun st => aGo cl none cd_177 0 18 ls st H) ls 0 st) ∧
  (∀ ls st H, aGo cl none cd_177 0 18 ls st H = aILoad (fun st => aGo cl none cd_177 0 19 ls st H) ls 1 st) ∧
  (∀ ls st H, aGo cl none cd_177 0 19 ls st H = aILoad (fun st => aGo cl none cd_177 0 20 ls st H) ls 2 st) ∧
  (∀ ls st H, aGo cl none cd_177 0 20 ls st H = aCallV (fun st H => aGo cl none cd_177 0 23 ls st H) cl 150 2 8 H st) ∧
  (∀ ls st H, aGo cl none cd_177 0 23 ls st H = aGo cl none cd_177 0 31 ls st H) ∧
  (∀ ls st H, aGo cl none cd_177 0 26 ls st H = aRLoad (fun st => aGo cl none cd_177 0 27 ls st H) ls 0 st) ∧
  (∀ ls st H, aGo cl none cd_177 0 27 ls st H = aGo cl none cd_177 0 28 ls (.int 1 :: st) H) ∧
  (∀ ls st H, aGo cl none cd_177 0 28 ls st H = aCallV (fun st H => aGo cl none cd_177 0 31 ls st H) cl 116 1 8 H st) ∧
  (∀ ls st H, aGo cl none cd_177 0 31 ls st H = aIret 0 st H) :=
  ⟨fun _ _ _ => (aGo_s rfl).trans rfl, fun _ _ _ => (aGo_s rfl).trans rfl, fun _ _ _ => (aGo_s rfl).trans rfl, fun _ _ _ => (aGo_s rfl).trans rfl, fun _ _ _ => (aGo_s rfl).trans rfl, fun _ _ _ => (aGo_s rfl).trans rfl, fun _ _ _ => (aGo_s rfl).trans rfl, fun _ _ _ => (aGo_s rfl).trans rfl, fun _ _ _ => (aGo_s rfl).trans rfl, fun _ _ _ => (aGo_s rfl).trans rfl, fun _ _ _ => (aGo_s rfl).trans rfl, fun _ _ _ => (aGo_s rfl).trans rfl, fun _ _ _ => (aGo_s rfl).trans rfl, fun _ _ _ => (aGo_s rfl).trans rfl, fun _ _ _ => (aGo_s rfl).trans rfl, fun _ _ _ => (aGo_s rfl).trans rfl, fun _ _ _ => (aGo_s rfl).trans rfl, fun _ _ _ => (aGo_s rfl).trans rfl⟩
theorem e_177 {d : Nat} {x0 : Nat} {x1 : Int32} {x2 : Int32} {H : aH} : aCall aMt (d + 1) 177 [.ref x0, .int x1, .int x2] H = aGo (aCall aMt d) none cd_177 0 0 [some (.ref x0), some (.int x1), some (.int x2)] [] H := (c_0 rfl ⟨rfl, Nat.le_of_ble_eq_true rfl, Nat.le_of_ble_eq_true rfl⟩).trans rfl
theorem s_178 {cl : Nat → List Value → aH → aRs} : (∀ ls st H, aGo cl none cd_178 0 0 ls st H = aRLoad (fun st => aGo cl none cd_178 0 1 ls st H) ls 0 st) ∧
  (∀ ls st H, aGo cl none cd_178 0 1 ls st H = aILoad (fun st => aGo cl none cd_178 0 2 ls st H) ls 1 st) ∧
  (∀ ls st H, aGo cl none cd_178 0 2 ls st H = aCallV (fun st H => aGo cl none cd_178 0 5 ls st H) cl 122 1 8 H st) ∧
  (∀ ls st H, aGo cl none cd_178 0 5 ls st H = aIf (fun p st => aGo cl none cd_178 0 p ls st H) .eq 26 8 st) ∧
  (∀ ls st H, aGo cl none cd_178 0 8 ls st H = aILoad (fun st => aGo cl none cd_178 0 9 ls st H) ls 2 st) ∧
  (∀ ls st H, aGo cl none cd_178 0 9 ls st H = aGo cl none cd_178 0 10 ls (.int 0 :: st) H) ∧
  (∀ ls st H, aGo cl none cd_178 0 10 ls st H = aGo cl none cd_178 0 11 ls (.int 1 :: st) H) ∧
  (∀ ls st H, aGo cl none cd_178 0 11 ls st H = aCallI (fun st H => aGo cl none cd_178 0 14 ls st H) cl 117 3 H st) ∧
  (∀ ls st H, aGo cl none cd_178 0 14 ls st H = aIf (fun p st => aGo cl none cd_178 0 p ls st H) .eq 26 17 st) ∧
  (∀ ls st H, aGo cl none cd_178 0 17 ls st H = aRLoad (fun st => aGo cl none cd_178 0 18 ls st H) ls 0 st) ∧
  (∀ ls st H, aGo cl none cd_178 0 18 ls st H = aILoad (fun st => aGo cl none cd_178 0 19 ls st H) ls 1 st) ∧
  (∀ ls st H, aGo cl none cd_178 0 19 ls st H = aILoad (fun st => aGo cl none cd_178 0 20 ls st H) ls 2 st) ∧
  (∀ ls st H, aGo cl none cd_178 0 20 ls st H = aCallV (fun st H => aGo cl none cd_178 0 23 ls st H) cl 159 2 8 H st) ∧
  (∀ ls st H, aGo cl none cd_178 0 23 ls st H = aGo cl none cd_178 0 31 ls st H) ∧
  (∀ ls st H, aGo cl none cd_178 0 26 ls st H = aRLoad (fun st => aGo cl none cd_178 0 27 ls st H) ls 0 st) ∧
  (∀ ls st H, aGo cl none cd_178 0 27 ls st H = aGo cl none cd_178 0 28 ls (.int 1 :: st) H) ∧
  (∀ ls st H, aGo cl none cd_178 0 28 ls st H = aCallV (fun st H => aGo cl none cd_178 0 31 ls st H) cl 116 1 8 H st) ∧
  (∀ ls st H, aGo cl none cd_178 0 31 ls st H = aIret 0 st H) :=
  ⟨fun _ _ _ => (aGo_s rfl).trans rfl, fun _ _ _ => (aGo_s rfl).trans rfl, fun _ _ _ => (aGo_s rfl).trans rfl, fun _ _ _ => (aGo_s rfl).trans rfl, fun _ _ _ => (aGo_s rfl).trans rfl, fun _ _ _ => (aGo_s rfl).trans rfl, fun _ _ _ => (aGo_s rfl).trans rfl, fun _ _ _ => (aGo_s rfl).trans rfl, fun _ _ _ => (aGo_s rfl).trans rfl, fun _ _ _ => (aGo_s rfl).trans rfl, fun _ _ _ => (aGo_s rfl).trans rfl, fun _ _ _ => (aGo_s rfl).trans rfl, fun _ _ _ => (aGo_s rfl).trans rfl, fun _ _ _ => (aGo_s rfl).trans rfl, fun _ _ _ => (aGo_s rfl).trans rfl, fun _ _ _ => (aGo_s rfl).trans rfl, fun _ _ _ => (aGo_s rfl).trans rfl, fun _ _ _ => (aGo_s rfl).trans rfl⟩
theorem e_178 {d : Nat} {x0 : Nat} {x1 : Int32} {x2 : Int32} {H : aH} : aCall aMt (d + 1) 178 [.ref x0, .int x1, .int x2] H = aGo (aCall aMt d) none cd_178 0 0 [some (.ref x0), some (.int x1), some (.int x2)] [] H := (c_0 rfl ⟨rfl, Nat.le_of_ble_eq_true rfl, Nat.le_of_ble_eq_true rfl⟩).trans rfl
theorem s_179 {cl : Nat → List Value → aH → aRs} : (∀ ls st H, aGo cl none cd_179 0 0 ls st H = aILoad (fun st => aGo cl none cd_179 0 1 ls st H) ls 1 st) ∧
  (∀ ls st H, aGo cl none cd_179 0 1 ls st H = aGo cl none cd_179 0 2 ls (.int 1 :: st) H) ∧
  (∀ ls st H, aGo cl none cd_179 0 2 ls st H = aGo cl none cd_179 0 4 ls (.int 40 :: st) H) ∧
  (∀ ls st H, aGo cl none cd_179 0 4 ls st H = aCallI (fun st H => aGo cl none cd_179 0 7 ls st H) cl 117 3 H st) ∧
  (∀ ls st H, aGo cl none cd_179 0 7 ls st H = aIf (fun p st => aGo cl none cd_179 0 p ls st H) .ne 16 10 st) ∧
  (∀ ls st H, aGo cl none cd_179 0 10 ls st H = aRLoad (fun st => aGo cl none cd_179 0 11 ls st H) ls 0 st) ∧
  (∀ ls st H, aGo cl none cd_179 0 11 ls st H = aGo cl none cd_179 0 12 ls (.int 1 :: st) H) ∧
  (∀ ls st H, aGo cl none cd_179 0 12 ls st H = aCallV (fun st H => aGo cl none cd_179 0 15 ls st H) cl 116 1 8 H st) ∧
  (∀ ls st H, aGo cl none cd_179 0 15 ls st H = aIret 0 st H) ∧
  (∀ ls st H, aGo cl none cd_179 0 16 ls st H = aRLoad (fun st => aGo cl none cd_179 0 17 ls st H) ls 0 st) ∧
  (∀ ls st H, aGo cl none cd_179 0 17 ls st H = aGet (fun st => aGo cl none cd_179 0 20 ls st H) 8 0 H st) ∧
  (∀ ls st H, aGo cl none cd_179 0 20 ls st H = aGo cl none cd_179 0 21 ls (.int 0 :: st) H) ∧
  (∀ ls st H, aGo cl none cd_179 0 21 ls st H = aIald (fun st => aGo cl none cd_179 0 22 ls st H) none H st) ∧
  (∀ ls st H, aGo cl none cd_179 0 22 ls st H = aILoad (fun st => aGo cl none cd_179 0 23 ls st H) ls 1 st) ∧
  (∀ ls st H, aGo cl none cd_179 0 23 ls st H = aBin (fun st => aGo cl none cd_179 0 24 ls st H) (fun x y => x + y) st) ∧
  (∀ ls st H, aGo cl none cd_179 0 24 ls st H = aGo cl none cd_179 0 27 ls (.int 9999 :: st) H) ∧
  (∀ ls st H, aGo cl none cd_179 0 27 ls st H = aIc (fun p st => aGo cl none cd_179 0 p ls st H) .le 36 30 st) ∧
  (∀ ls st H, aGo cl none cd_179 0 30 ls st H = aRLoad (fun st => aGo cl none cd_179 0 31 ls st H) ls 0 st) ∧
  (∀ ls st H, aGo cl none cd_179 0 31 ls st H = aGo cl none cd_179 0 32 ls (.int 3 :: st) H) ∧
  (∀ ls st H, aGo cl none cd_179 0 32 ls st H = aCallV (fun st H => aGo cl none cd_179 0 35 ls st H) cl 116 1 8 H st) ∧
  (∀ ls st H, aGo cl none cd_179 0 35 ls st H = aIret 0 st H) ∧
  (∀ ls st H, aGo cl none cd_179 0 36 ls st H = aGo cl none cd_179 0 37 ls (.int 0 :: st) H) ∧
  (∀ ls st H, aGo cl none cd_179 0 37 ls st H = aIStore (fun ls st => aGo cl none cd_179 0 38 ls st H) ls 2 st) ∧
  (∀ ls st H, aGo cl none cd_179 0 39 ls st H = aILoad (fun st => aGo cl none cd_179 0 40 ls st H) ls 1 st) ∧
  (∀ ls st H, aGo cl none cd_179 0 40 ls st H = aIc (fun p st => aGo cl none cd_179 0 p ls st H) .ge 54 43 st) ∧
  (∀ ls st H, aGo cl none cd_179 0 43 ls st H = aRLoad (fun st => aGo cl none cd_179 0 44 ls st H) ls 0 st) ∧
  (∀ ls st H, aGo cl none cd_179 0 44 ls st H = aCallV (fun st H => aGo cl none cd_179 0 47 ls st H) cl 162 0 8 H st) ∧
  (∀ ls st H, aGo cl none cd_179 0 47 ls st H = aIStore (fun ls st => aGo cl none cd_179 0 48 ls st H) ls 3 st) ∧
  (∀ ls st H, aGo cl none cd_179 0 48 ls st H = aInc (fun ls => aGo cl none cd_179 0 51 ls st H) ls 2 1) ∧
  (∀ ls st H, aGo cl none cd_179 0 51 ls st H = aGo cl none cd_179 0 38 ls st H) ∧
  (∀ ls st H, aGo cl none cd_179 0 54 ls st H = aRLoad (fun st => aGo cl none cd_179 0 55 ls st H) ls 0 st) ∧
  (∀ ls st H, aGo cl none cd_179 0 55 ls st H = aGet (fun st => aGo cl none cd_179 0 58 ls st H) 8 0 H st) ∧
  (∀ ls st H, aGo cl none cd_179 0 58 ls st H = aGo cl none cd_179 0 59 ls (.int 1 :: st) H) ∧
  (∀ ls st H, aGo cl none cd_179 0 59 ls st H = aIald (fun st => aGo cl none cd_179 0 60 ls st H) none H st) ∧
  (∀ ls st H, aGo cl none cd_179 0 60 ls st H = aIret 0 st H) :=
  ⟨fun _ _ _ => (aGo_s rfl).trans rfl, fun _ _ _ => (aGo_s rfl).trans rfl, fun _ _ _ => (aGo_s rfl).trans rfl, fun _ _ _ => (aGo_s rfl).trans rfl, fun _ _ _ => (aGo_s rfl).trans rfl, fun _ _ _ => (aGo_s rfl).trans rfl, fun _ _ _ => (aGo_s rfl).trans rfl, fun _ _ _ => (aGo_s rfl).trans rfl, fun _ _ _ => (aGo_s rfl).trans rfl, fun _ _ _ => (aGo_s rfl).trans rfl, fun _ _ _ => (aGo_s rfl).trans rfl, fun _ _ _ => (aGo_s rfl).trans rfl, fun _ _ _ => (aGo_s rfl).trans rfl, fun _ _ _ => (aGo_s rfl).trans rfl, fun _ _ _ => (aGo_s rfl).trans rfl, fun _ _ _ => (aGo_s rfl).trans rfl, fun _ _ _ => (aGo_s rfl).trans rfl, fun _ _ _ => (aGo_s rfl).trans rfl, fun _ _ _ => (aGo_s rfl).trans rfl, fun _ _ _ => (aGo_s rfl).trans rfl, fun _ _ _ => (aGo_s rfl).trans rfl, fun _ _ _ => (aGo_s rfl).trans rfl, fun _ _ _ => (aGo_s rfl).trans rfl, fun _ _ _ => (aGo_s rfl).trans rfl, fun _ _ _ => (aGo_s rfl).trans rfl, fun _ _ _ => (aGo_s rfl).trans rfl, fun _ _ _ => (aGo_s rfl).trans rfl, fun _ _ _ => (aGo_s rfl).trans rfl, fun _ _ _ => (aGo_s rfl).trans rfl, fun _ _ _ => (aGo_s rfl).trans rfl, fun _ _ _ => (aGo_s rfl).trans rfl, fun _ _ _ => (aGo_s rfl).trans rfl, fun _ _ _ => (aGo_s rfl).trans rfl, fun _ _ _ => (aGo_s rfl).trans rfl, fun _ _ _ => (aGo_s rfl).trans rfl⟩
theorem s_179_38 {cl : Nat → List Value → aH → aRs} : ∀ ls st H, aGo cl none cd_179 0 38 ls st H = aILoad (fun st => aGo cl none cd_179 0 39 ls st H) ls 2 st := fun _ _ _ => (aGo_s rfl).trans rfl
theorem e_179 {d : Nat} {x0 : Nat} {x1 : Int32} {H : aH} : aCall aMt (d + 1) 179 [.ref x0, .int x1] H = aGo (aCall aMt d) none cd_179 0 0 [some (.ref x0), some (.int x1), none, none] [] H := (c_0 rfl ⟨rfl, Nat.le_of_ble_eq_true rfl, Nat.le_of_ble_eq_true rfl⟩).trans rfl
theorem s_180 {cl : Nat → List Value → aH → aRs} : (∀ ls st H, aGo cl none cd_180 0 0 ls st H = aILoad (fun st => aGo cl none cd_180 0 1 ls st H) ls 1 st) ∧
  (∀ ls st H, aGo cl none cd_180 0 1 ls st H = aGo cl none cd_180 0 2 ls (.int 0 :: st) H) ∧
  (∀ ls st H, aGo cl none cd_180 0 2 ls st H = aGo cl none cd_180 0 4 ls (.int 9 :: st) H) ∧
  (∀ ls st H, aGo cl none cd_180 0 4 ls st H = aCallI (fun st H => aGo cl none cd_180 0 7 ls st H) cl 117 3 H st) ∧
  (∀ ls st H, aGo cl none cd_180 0 7 ls st H = aIf (fun p st => aGo cl none cd_180 0 p ls st H) .ne 16 10 st) ∧
  (∀ ls st H, aGo cl none cd_180 0 10 ls st H = aRLoad (fun st => aGo cl none cd_180 0 11 ls st H) ls 0 st) ∧
  (∀ ls st H, aGo cl none cd_180 0 11 ls st H = aGo cl none cd_180 0 12 ls (.int 1 :: st) H) ∧
  (∀ ls st H, aGo cl none cd_180 0 12 ls st H = aCallV (fun st H => aGo cl none cd_180 0 15 ls st H) cl 116 1 8 H st) ∧
  (∀ ls st H, aGo cl none cd_180 0 15 ls st H = aIret 0 st H) ∧
  (∀ ls st H, aGo cl none cd_180 0 16 ls st H = aGo cl none cd_180 0 17 ls (.int 0 :: st) H) ∧
  (∀ ls st H, aGo cl none cd_180 0 17 ls st H = aIStore (fun ls st => aGo cl none cd_180 0 18 ls st H) ls 2 st) ∧
  (∀ ls st H, aGo cl none cd_180 0 18 ls st H = aGo cl none cd_180 0 19 ls (.int 0 :: st) H) ∧
  (∀ ls st H, aGo cl none cd_180 0 19 ls st H = aIStore (fun ls st => aGo cl none cd_180 0 20 ls st H) ls 3 st) ∧
  (∀ ls st H, aGo cl none cd_180 0 21 ls st H = aRLoad (fun st => aGo cl none cd_180 0 22 ls st H) ls 0 st) ∧
  (∀ ls st H, aGo cl none cd_180 0 22 ls st H = aGet (fun st => aGo cl none cd_180 0 25 ls st H) 8 0 H st) ∧
  (∀ ls st H, aGo cl none cd_180 0 25 ls st H = aGo cl none cd_180 0 27 ls (.int 8 :: st) H) ∧
  (∀ ls st H, aGo cl none cd_180 0 27 ls st H = aIald (fun st => aGo cl none cd_180 0 28 ls st H) none H st) ∧
  (∀ ls st H, aGo cl none cd_180 0 28 ls st H = aIc (fun p st => aGo cl none cd_180 0 p ls st H) .ge 65 31 st) ∧
  (∀ ls st H, aGo cl none cd_180 0 31 ls st H = aRLoad (fun st => aGo cl none cd_180 0 32 ls st H) ls 0 st) ∧
  (∀ ls st H, aGo cl none cd_180 0 32 ls st H = aILoad (fun st => aGo cl none cd_180 0 33 ls st H) ls 3 st) ∧
  (∀ ls st H, aGo cl none cd_180 0 33 ls st H = aCallV (fun st H => aGo cl none cd_180 0 36 ls st H) cl 129 1 8 H st) ∧
  (∀ ls st H, aGo cl none cd_180 0 36 ls st H = aIf (fun p st => aGo cl none cd_180 0 p ls st H) .eq 59 39 st) ∧
  (∀ ls st H, aGo cl none cd_180 0 39 ls st H = aRLoad (fun st => aGo cl none cd_180 0 40 ls st H) ls 0 st) ∧
  (∀ ls st H, aGo cl none cd_180 0 40 ls st H = aILoad (fun st => aGo cl none cd_180 0 41 ls st H) ls 3 st) ∧
  (∀ ls st H, aGo cl none cd_180 0 41 ls st H = aGo cl none cd_180 0 42 ls (.int 3 :: st) H) ∧
  (∀ ls st H, aGo cl none cd_180 0 42 ls st H = aCallV (fun st H => aGo cl none cd_180 0 45 ls st H) cl 126 2 8 H st) ∧
  (∀ ls st H, aGo cl none cd_180 0 45 ls st H = aILoad (fun st => aGo cl none cd_180 0 46 ls st H) ls 1 st) ∧
  (∀ ls st H, aGo cl none cd_180 0 46 ls st H = aIc (fun p st => aGo cl none cd_180 0 p ls st H) .lt 59 49 st) ∧
  (∀ ls st H, aGo cl none cd_180 0 49 ls st H = aRLoad (fun st => aGo cl none cd_180 0 50 ls st H) ls 0 st) ∧
  (∀ ls st H, aGo cl none cd_180 0 50 ls st H = aILoad (fun st => aGo cl none cd_180 0 51 ls st H) ls 3 st) ∧
  (∀ ls st H, aGo cl none cd_180 0 51 ls st H = aGo cl none cd_180 0 52 ls (.int 5 :: st) H) ∧
  (∀ ls st H, aGo cl none cd_180 0 52 ls st H = aGo cl none cd_180 0 53 ls (.int 0 :: st) H) ∧
  (∀ ls st H, aGo cl none cd_180 0 53 ls st H = aCallV (fun st H => aGo cl none cd_180 0 56 ls st H) cl 127 3 8 H st) ∧
  (∀ ls st H, aGo cl none cd_180 0 56 ls st H = aInc (fun ls => aGo cl none cd_180 0 59 ls st H) ls 2 1) ∧
  (∀ ls st H, aGo cl none cd_180 0 59 ls st H = aInc (fun ls => aGo cl none cd_180 0 62 ls st H) ls 3 1) ∧
  (∀ ls st H, aGo cl none cd_180 0 62 ls st H = aGo cl none cd_180 0 20 ls st H) ∧
  (∀ ls st H, aGo cl none cd_180 0 65 ls st H = aRLoad (fun st => aGo cl none cd_180 0 66 ls st H) ls 0 st) ∧
  (∀ ls st H, aGo cl none cd_180 0 66 ls st H = aGo cl none cd_180 0 67 ls (.int 3 :: st) H) ∧
  (∀ ls st H, aGo cl none cd_180 0 67 ls st H = aILoad (fun st => aGo cl none cd_180 0 68 ls st H) ls 2 st) ∧
  (∀ ls st H, aGo cl none cd_180 0 68 ls st H = aCallV (fun st H => aGo cl none cd_180 0 71 ls st H) cl 158 2 8 H st) ∧
  (∀ ls st H, aGo cl none cd_180 0 71 ls st H = aILoad (fun st => aGo cl none cd_180 0 72 ls st H) ls 2 st) ∧
  (∀ ls st H, aGo cl none cd_180 0 72 ls st H = aIret 0 st H) :=
  ⟨fun _ _ _ => (aGo_s rfl).trans rfl, fun _ _ _ => (aGo_s rfl).trans rfl, fun _ _ _ => (aGo_s rfl).trans rfl, fun _ _ _ => (aGo_s rfl).trans rfl, fun _ _ _ => (aGo_s rfl).trans rfl, fun _ _ _ => (aGo_s rfl).trans rfl, fun _ _ _ => (aGo_s rfl).trans rfl, fun _ _ _ => (aGo_s rfl).trans rfl, fun _ _ _ => (aGo_s rfl).trans rfl, fun _ _ _ => (aGo_s rfl).trans rfl, fun _ _ _ => (aGo_s rfl).trans rfl, fun _ _ _ => (aGo_s rfl).trans rfl, fun _ _ _ => (aGo_s rfl).trans rfl, fun _ _ _ => (aGo_s rfl).trans rfl, fun _ _ _ => (aGo_s rfl).trans rfl, fun _ _ _ => (aGo_s rfl).trans rfl, fun _ _ _ => (aGo_s rfl).trans rfl, fun _ _ _ => (aGo_s rfl).trans rfl, fun _ _ _ => (aGo_s rfl).trans rfl, fun _ _ _ => (aGo_s rfl).trans rfl, fun _ _ _ => (aGo_s rfl).trans rfl, fun _ _ _ => (aGo_s rfl).trans rfl, fun _ _ _ => (aGo_s rfl).trans rfl, fun _ _ _ => (aGo_s rfl).trans rfl, fun _ _ _ => (aGo_s rfl).trans rfl, fun _ _ _ => (aGo_s rfl).trans rfl, fun _ _ _ => (aGo_s rfl).trans rfl, fun _ _ _ => (aGo_s rfl).trans rfl, fun _ _ _ => (aGo_s rfl).trans rfl, fun _ _ _ => (aGo_s rfl).trans rfl, fun _ _ _ => (aGo_s rfl).trans rfl, fun _ _ _ => (aGo_s rfl).trans rfl, fun _ _ _ => (aGo_s rfl).trans rfl, fun _ _ _ => (aGo_s rfl).trans rfl, fun _ _ _ => (aGo_s rfl).trans rfl, fun _ _ _ => (aGo_s rfl).trans rfl, fun _ _ _ => (aGo_s rfl).trans rfl, fun _ _ _ => (aGo_s rfl).trans rfl, fun _ _ _ => (aGo_s rfl).trans rfl, fun _ _ _ => (aGo_s rfl).trans rfl, fun _ _ _ => (aGo_s rfl).trans rfl, fun _ _ _ => (aGo_s rfl).trans rfl⟩
theorem s_180_20 {cl : Nat → List Value → aH → aRs} : ∀ ls st H, aGo cl none cd_180 0 20 ls st H = aILoad (fun st => aGo cl none cd_180 0 21 ls st H) ls 3 st := fun _ _ _ => (aGo_s rfl).trans rfl
theorem e_180 {d : Nat} {x0 : Nat} {x1 : Int32} {H : aH} : aCall aMt (d + 1) 180 [.ref x0, .int x1] H = aGo (aCall aMt d) none cd_180 0 0 [some (.ref x0), some (.int x1), none, none] [] H := (c_0 rfl ⟨rfl, Nat.le_of_ble_eq_true rfl, Nat.le_of_ble_eq_true rfl⟩).trans rfl
theorem s_181 {cl : Nat → List Value → aH → aRs} : (∀ ls st H, aGo cl none cd_181 0 0 ls st H = aRLoad (fun st => aGo cl none cd_181 0 1 ls st H) ls 0 st) ∧
  (∀ ls st H, aGo cl none cd_181 0 1 ls st H = aGo cl none cd_181 0 2 ls (.int 4 :: st) H) ∧
  (∀ ls st H, aGo cl none cd_181 0 2 ls st H = aILoad (fun st => aGo cl none cd_181 0 3 ls st H) ls 1 st) ∧
  (∀ ls st H, aGo cl none cd_181 0 3 ls st H = aCallV (fun st H => aGo cl none cd_181 0 6 ls st H) cl 128 2 8 H st) ∧
  (∀ ls st H, aGo cl none cd_181 0 6 ls st H = aIret 0 st H) :=
  ⟨fun _ _ _ => (aGo_s rfl).trans rfl, fun _ _ _ => (aGo_s rfl).trans rfl, fun _ _ _ => (aGo_s rfl).trans rfl, fun _ _ _ => (aGo_s rfl).trans rfl, fun _ _ _ => (aGo_s rfl).trans rfl⟩
theorem e_181 {d : Nat} {x0 : Nat} {x1 : Int32} {H : aH} : aCall aMt (d + 1) 181 [.ref x0, .int x1] H = aGo (aCall aMt d) none cd_181 0 0 [some (.ref x0), some (.int x1)] [] H := (c_0 rfl ⟨rfl, Nat.le_of_ble_eq_true rfl, Nat.le_of_ble_eq_true rfl⟩).trans rfl
theorem s_182 {cl : Nat → List Value → aH → aRs} : (∀ ls st H, aGo cl none cd_182 0 0 ls st H = aRLoad (fun st => aGo cl none cd_182 0 1 ls st H) ls 0 st) ∧
  (∀ ls st H, aGo cl none cd_182 0 1 ls st H = aILoad (fun st => aGo cl none cd_182 0 2 ls st H) ls 1 st) ∧
  (∀ ls st H, aGo cl none cd_182 0 2 ls st H = aCallV (fun st H => aGo cl none cd_182 0 5 ls st H) cl 122 1 8 H st) ∧
  (∀ ls st H, aGo cl none cd_182 0 5 ls st H = aIf (fun p st => aGo cl none cd_182 0 p ls st H) .eq 26 8 st) ∧
  (∀ ls st H, aGo cl none cd_182 0 8 ls st H = aILoad (fun st => aGo cl none cd_182 0 9 ls st H) ls 2 st) ∧
  (∀ ls st H, aGo cl none cd_182 0 9 ls st H = aGo cl none cd_182 0 10 ls (.int 0 :: st) H) ∧
  (∀ ls st H, aGo cl none cd_182 0 10 ls st H = aGo cl none cd_182 0 11 ls (.int 1 :: st) H) ∧
  (∀ ls st H, aGo cl none cd_182 0 11 ls st H = aCallI (fun st H => aGo cl none cd_182 0 14 ls st H) cl 117 3 H st) ∧
  (∀ ls st H, aGo cl none cd_182 0 14 ls st H = aIf (fun p st => aGo cl none cd_182 0 p ls st H) .eq 26 17 st) ∧
  (∀ ls st H, aGo cl none cd_182 0 17 ls st H = aILoad (fun st => aGo cl none cd_182 0 18 ls st H) ls 3 st) ∧
  (∀ ls st H, aGo cl none cd_182 0 18 ls st H = aGo cl none cd_182 0 19 ls (.int 0 :: st) H) ∧
  (∀ ls st H, aGo cl none cd_182 0 19 ls st H = aGo cl none cd_182 0 20 ls (.int 1 :: st) H) ∧
  (∀ ls st H, aGo cl none cd_182 0 20 ls st H = aCallI (fun st H => aGo cl none cd_182 0 23 ls st H) cl 117 3 H st) ∧
  (∀ ls st H, aGo cl none cd_182 0 23 ls st H = aIf (fun p st => aGo cl none cd_182 0 p ls st H) .ne 32 26 st) ∧
  (∀ ls st H, aGo cl none cd_182 0 26 ls st H = aRLoad (fun st => aGo cl none cd_182 0 27 ls st H) ls 0 st) ∧
  (∀ ls st H, aGo cl none cd_182 0 27 ls st H = aGo cl none cd_182 0 28 ls (.int 1 :: st) H) ∧
  (∀ ls st H, aGo cl none cd_182 0 28 ls st H = aCallV (fun st H => aGo cl none cd_182 0 31 ls st H) cl 116 1 8 H st) ∧
  (∀ ls st H, aGo cl none cd_182 0 31 ls st H = aIret 0 st H) ∧
  (∀ ls st H, aGo cl none cd_182 0 32 ls st H = aRLoad (fun st => aGo cl none cd_182 0 33 ls st H) ls 0 st) ∧
  (∀ ls st H, aGo cl none cd_182 0 33 ls st H = aILoad (fun st => aGo cl none cd_182 0 34 ls st H) ls 1 st) ∧
  (∀ ls st H, aGo cl none cd_182 0 34 ls st H = aILoad (fun st => aGo cl none cd_182 0 35 ls st H) ls 2 st) ∧
  (∀ ls st H, aGo cl none cd_182 0 35 ls st H = aCallV (fun st H => aGo cl none cd_182 0 38 ls st H) cl 157 2 8 H st) ∧
  (∀ ls st H, aGo cl none cd_182 0 38 ls st H = aIStore (fun ls st => aGo cl none cd_182 0 40 ls st H) ls 4 st) ∧
  (∀ ls st H, aGo cl none cd_182 0 40 ls st H = aILoad (fun st => aGo cl none cd_182 0 41 ls st H) ls 3 st) ∧
  (∀ ls st H, aGo cl none cd_182 0 41 ls st H = aIf (fun p st => aGo cl none cd_182 0 p ls st H) .ne 49 44 st) ∧
  (∀ ls st H, aGo cl none cd_182 0 44 ls st H = aILoad (fun st => aGo cl none cd_182 0 46 ls st H) ls 4 st) ∧
  (∀ ls st H, aGo cl none cd_182 0 46 ls st H = aGo cl none cd_182 0 67 ls st H) ∧
  (∀ ls st H, aGo cl none cd_182 0 49 ls st H = aILoad (fun st => aGo cl none cd_182 0 51 ls st H) ls 4 st) ∧
  (∀ ls st H, aGo cl none cd_182 0 51 ls st H = aGo cl none cd_182 0 52 ls (.int (-1) :: st) H) ∧
  (∀ ls st H, aGo cl none cd_182 0 52 ls st H = aIc (fun p st => aGo cl none cd_182 0 p ls st H) .ne 59 55 st) ∧
  (∀ ls st H, aGo cl none cd_182 0 55 ls st H = aGo cl none cd_182 0 56 ls (.int 0 :: st) H) ∧
  (∀ ls st H, aGo cl none cd_182 0 56 ls st H = aGo cl none cd_182 0 67 ls st H) ∧
  (∀ ls st H, aGo cl none cd_182 0 59 ls st H = aRLoad (fun st => aGo cl none cd_182 0 60 ls st H) ls 0 st) ∧
  (∀ ls st H, aGo cl none cd_182 0 60 ls st H = aILoad (fun st => aGo cl none cd_182 0 61 ls st H) ls 1 st) ∧
  (∀ ls st H, aGo cl none cd_182 0 61 ls st H = aILoad (fun st => aGo cl none cd_182 0 63 ls st H) ls 4 st) ∧
  (∀ ls st H, aGo cl none cd_182 0 63 ls st H = aILoad (fun st => aGo cl none cd_182 0 64 ls st H) ls 2 st) ∧
  (∀ ls st H, aGo cl none cd_182 0 64 ls st H = aCallV (fun st H => aGo cl none cd_182 0 67 ls st H) cl 155 3 8 H st) ∧
  (∀ ls st H, aGo cl none cd_182 0 67 ls st H = aIret 0 st H) :=
  ⟨fun _ _ _ => (aGo_s rfl).trans rfl, fun _ _ _ => (aGo_s rfl).trans rfl, fun _ _ _ => (aGo_s rfl).trans rfl, fun _ _ _ => (aGo_s rfl).trans rfl, fun _ _ _ => (aGo_s rfl).trans rfl, fun _ _ _ => (aGo_s rfl).trans rfl, fun _ _ _ => (aGo_s rfl).trans rfl, fun _ _ _ => (aGo_s rfl).trans rfl, fun _ _ _ => (aGo_s rfl).trans rfl, fun _ _ _ => (aGo_s rfl).trans rfl, fun _ _ _ => (aGo_s rfl).trans rfl, fun _ _ _ => (aGo_s rfl).trans rfl, fun _ _ _ => (aGo_s rfl).trans rfl, fun _ _ _ => (aGo_s rfl).trans rfl, fun _ _ _ => (aGo_s rfl).trans rfl, fun _ _ _ => (aGo_s rfl).trans rfl, fun _ _ _ => (aGo_s rfl).trans rfl, fun _ _ _ => (aGo_s rfl).trans rfl, fun _ _ _ => (aGo_s rfl).trans rfl, fun _ _ _ => (aGo_s rfl).trans rfl, fun _ _ _ => (aGo_s rfl).trans rfl, fun _ _ _ => (aGo_s rfl).trans rfl, fun _ _ _ => (aGo_s rfl).trans rfl, fun _ _ _ => (aGo_s rfl).trans rfl, fun _ _ _ => (aGo_s rfl).trans rfl, fun _ _ _ => (aGo_s rfl).trans rfl, fun _ _ _ => (aGo_s rfl).trans rfl, fun _ _ _ => (aGo_s rfl).trans rfl, fun _ _ _ => (aGo_s rfl).trans rfl, fun _ _ _ => (aGo_s rfl).trans rfl, fun _ _ _ => (aGo_s rfl).trans rfl, fun _ _ _ => (aGo_s rfl).trans rfl, fun _ _ _ => (aGo_s rfl).trans rfl, fun _ _ _ => (aGo_s rfl).trans rfl, fun _ _ _ => (aGo_s rfl).trans rfl, fun _ _ _ => (aGo_s rfl).trans rfl, fun _ _ _ => (aGo_s rfl).trans rfl, fun _ _ _ => (aGo_s rfl).trans rfl⟩
theorem e_182 {d : Nat} {x0 : Nat} {x1 : Int32} {x2 : Int32} {x3 : Int32} {H : aH} : aCall aMt (d + 1) 182 [.ref x0, .int x1, .int x2, .int x3] H = aGo (aCall aMt d) none cd_182 0 0 [some (.ref x0), some (.int x1), some (.int x2), some (.int x3), none] [] H := (c_0 rfl ⟨rfl, Nat.le_of_ble_eq_true rfl, Nat.le_of_ble_eq_true rfl⟩).trans rfl
theorem s_183 {cl : Nat → List Value → aH → aRs} : (∀ ls st H, aGo cl none cd_183 0 0 ls st H = aRLoad (fun st => aGo cl none cd_183 0 1 ls st H) ls 0 st) ∧
  (∀ ls st H, aGo cl none cd_183 0 1 ls st H = aILoad (fun st => aGo cl none cd_183 0 2 ls st H) ls 1 st) ∧
  (∀ ls st H, aGo cl none cd_183 0 2 ls st H = aCallV (fun st H => aGo cl none cd_183 0 5 ls st H) cl 123 1 8 H st) ∧
  (∀ ls st H, aGo cl none cd_183 0 5 ls st H = aIf (fun p st => aGo cl none cd_183 0 p ls st H) .eq 17 8 st) ∧
  (∀ ls st H, aGo cl none cd_183 0 8 ls st H = aILoad (fun st => aGo cl none cd_183 0 9 ls st H) ls 2 st) ∧
  (∀ ls st H, aGo cl none cd_183 0 9 ls st H = aGo cl none cd_183 0 10 ls (.int 0 :: st) H) ∧
  (∀ ls st H, aGo cl none cd_183 0 10 ls st H = aGo cl none cd_183 0 11 ls (.int 1 :: st) H) ∧
  (∀ ls st H, aGo cl none cd_183 0 11 ls st H = aCallI (fun st H => aGo cl none cd_183 0 14 ls st H) cl 117 3 H st) ∧
  (∀ ls st H, aGo cl none cd_183 0 14 ls st H = aIf (fun p st => aGo cl none cd_183 0 p ls st H) .ne 23 17 st) ∧
  (∀ ls st H, aGo cl none cd_183 0 17 ls st H = aRLoad (fun st => aGo cl none cd_183 0 18 ls st H) ls 0 st) ∧
  (∀ ls st H, aGo cl none cd_183 0 18 ls st H = aGo cl none cd_183 0 19 ls (.int 1 :: st) H) ∧
  (∀ ls st H, aGo cl none cd_183 0 19 ls st H = aCallV (fun st H => aGo cl none cd_183 0 22 ls st H) cl 116 1 8 H st) ∧
  (∀ ls st H, aGo cl none cd_183 0 22 ls st H = aIret 0 st H) ∧
  (∀ ls st H, aGo cl none cd_183 0 23 ls st H = aGo cl none cd_183 0 24 ls (.int 0 :: st) H) ∧
  (∀ ls st H, aGo cl none cd_183 0 24 ls st H = aIStore (fun ls st => aGo cl none cd_183 0 25 ls st H) ls 3 st) ∧
  (∀ ls st H, aGo cl none cd_183 0 25 ls st H = aGo cl none cd_183 0 26 ls (.int 0 :: st) H) ∧
  (∀ ls st H, aGo cl none cd_183 0 26 ls st H = aIStore (fun ls st => aGo cl none cd_183 0 28 ls st H) ls 4 st) ∧
  (∀ ls st H, aGo cl none cd_183 0 30 ls st H = aRLoad (fun st => aGo cl none cd_183 0 31 ls st H) ls 0 st) ∧
  (∀ ls st H, aGo cl none cd_183 0 31 ls st H = aGet (fun st => aGo cl none cd_183 0 34 ls st H) 8 0 H st) ∧
  (∀ ls st H, aGo cl none cd_183 0 34 ls st H = aGo cl none cd_183 0 36 ls (.int 7 :: st) H) ∧
  (∀ ls st H, aGo cl none cd_183 0 36 ls st H = aIald (fun st => aGo cl none cd_183 0 37 ls st H) none H st) ∧
  (∀ ls st H, aGo cl none cd_183 0 37 ls st H = aIc (fun p st => aGo cl none cd_183 0 p ls st H) .ge 68 40 st) ∧
  (∀ ls st H, aGo cl none cd_183 0 40 ls st H = aILoad (fun st => aGo cl none cd_183 0 41 ls st H) ls 3 st) ∧
  (∀ ls st H, aGo cl none cd_183 0 41 ls st H = aRLoad (fun st => aGo cl none cd_183 0 42 ls st H) ls 0 st) ∧
  (∀ ls st H, aGo cl none cd_183 0 42 ls st H = aILoad (fun st => aGo cl none cd_183 0 44 ls st H) ls 4 st) ∧
  (∀ ls st H, aGo cl none cd_183 0 44 ls st H = aILoad (fun st => aGo cl none cd_183 0 45 ls st H) ls 2 st) ∧
  (∀ ls st H, aGo cl none cd_183 0 45 ls st H = aCallV (fun st H => aGo cl none cd_183 0 48 ls st H) cl 157 2 8 H st) ∧
  (∀ ls st H, aGo cl none cd_183 0 48 ls st H = aILoad (fun st => aGo cl none cd_183 0 49 ls st H) ls 1 st) ∧
  (∀ ls st H, aGo cl none cd_183 0 49 ls st H = aIc (fun p st => aGo cl none cd_183 0 p ls st H) .ne 59 52 st) ∧
  (∀ ls st H, aGo cl none cd_183 0 52 ls st H = aGo cl none cd_183 0 53 ls (.int 1 :: st) H) ∧
  (∀ ls st H, aGo cl none cd_183 0 53 ls st H = aILoad (fun st => aGo cl none cd_183 0 55 ls st H) ls 4 st) ∧
  (∀ ls st H, aGo cl none cd_183 0 55 ls st H = aBin (fun st => aGo cl none cd_183 0 56 ls st H) (fun x y => x <<< (y &&& 31)) st) ∧
  (∀ ls st H, aGo cl none cd_183 0 56 ls st H = aGo cl none cd_183 0 60 ls st H) ∧
  (∀ ls st H, aGo cl none cd_183 0 59 ls st H = aGo cl none cd_183 0 60 ls (.int 0 :: st) H) ∧
  (∀ ls st H, aGo cl none cd_183 0 60 ls st H = aBin (fun st => aGo cl none cd_183 0 61 ls st H) (fun x y => x ||| y) st) ∧
  (∀ ls st H, aGo cl none cd_183 0 61 ls st H = aIStore (fun ls st => aGo cl none cd_183 0 62 ls st H) ls 3 st) ∧
  (∀ ls st H, aGo cl none cd_183 0 62 ls st H = aInc (fun ls => aGo cl none cd_183 0 65 ls st H) ls 4 1) ∧
  (∀ ls st H, aGo cl none cd_183 0 65 ls st H = aGo cl none cd_183 0 28 ls st H) ∧
  (∀ ls st H, aGo cl none cd_183 0 68 ls st H = aILoad (fun st => aGo cl none cd_183 0 69 ls st H) ls 3 st) ∧
  (∀ ls st H, aGo cl none cd_183 0 69 ls st H = aIret 0 st H) :=
  ⟨fun _ _ _ => (aGo_s rfl).trans rfl, fun _ _ _ => (aGo_s rfl).trans rfl, fun _ _ _ => (aGo_s rfl).trans rfl, fun _ _ _ => (aGo_s rfl).trans rfl, fun _ _ _ => (aGo_s rfl).trans rfl, fun _ _ _ => (aGo_s rfl).trans rfl, fun _ _ _ => (aGo_s rfl).trans rfl, fun _ _ _ => (aGo_s rfl).trans rfl, fun _ _ _ => (aGo_s rfl).trans rfl, fun _ _ _ => (aGo_s rfl).trans rfl, fun _ _ _ => (aGo_s rfl).trans rfl, fun _ _ _ => (aGo_s rfl).trans rfl, fun _ _ _ => (aGo_s rfl).trans rfl, fun _ _ _ => (aGo_s rfl).trans rfl, fun _ _ _ => (aGo_s rfl).trans rfl, fun _ _ _ => (aGo_s rfl).trans rfl, fun _ _ _ => (aGo_s rfl).trans rfl, fun _ _ _ => (aGo_s rfl).trans rfl, fun _ _ _ => (aGo_s rfl).trans rfl, fun _ _ _ => (aGo_s rfl).trans rfl, fun _ _ _ => (aGo_s rfl).trans rfl, fun _ _ _ => (aGo_s rfl).trans rfl, fun _ _ _ => (aGo_s rfl).trans rfl, fun _ _ _ => (aGo_s rfl).trans rfl, fun _ _ _ => (aGo_s rfl).trans rfl, fun _ _ _ => (aGo_s rfl).trans rfl, fun _ _ _ => (aGo_s rfl).trans rfl, fun _ _ _ => (aGo_s rfl).trans rfl, fun _ _ _ => (aGo_s rfl).trans rfl, fun _ _ _ => (aGo_s rfl).trans rfl, fun _ _ _ => (aGo_s rfl).trans rfl, fun _ _ _ => (aGo_s rfl).trans rfl, fun _ _ _ => (aGo_s rfl).trans rfl, fun _ _ _ => (aGo_s rfl).trans rfl, fun _ _ _ => (aGo_s rfl).trans rfl, fun _ _ _ => (aGo_s rfl).trans rfl, fun _ _ _ => (aGo_s rfl).trans rfl, fun _ _ _ => (aGo_s rfl).trans rfl, fun _ _ _ => (aGo_s rfl).trans rfl, fun _ _ _ => (aGo_s rfl).trans rfl⟩
theorem s_183_28 {cl : Nat → List Value → aH → aRs} : ∀ ls st H, aGo cl none cd_183 0 28 ls st H = aILoad (fun st => aGo cl none cd_183 0 30 ls st H) ls 4 st := fun _ _ _ => (aGo_s rfl).trans rfl
theorem e_183 {d : Nat} {x0 : Nat} {x1 : Int32} {x2 : Int32} {H : aH} : aCall aMt (d + 1) 183 [.ref x0, .int x1, .int x2] H = aGo (aCall aMt d) none cd_183 0 0 [some (.ref x0), some (.int x1), some (.int x2), none, none] [] H := (c_0 rfl ⟨rfl, Nat.le_of_ble_eq_true rfl, Nat.le_of_ble_eq_true rfl⟩).trans rfl
theorem s_184 {cl : Nat → List Value → aH → aRs} : (∀ ls st H, aGo cl none cd_184 0 0 ls st H = aGo cl none cd_184 0 1 ls (.int 0 :: st) H) ∧
  (∀ ls st H, aGo cl none cd_184 0 1 ls st H = aIStore (fun ls st => aGo cl none cd_184 0 2 ls st H) ls 2 st) ∧
  (∀ ls st H, aGo cl none cd_184 0 2 ls st H = aGo cl none cd_184 0 3 ls (.int 0 :: st) H) ∧
  (∀ ls st H, aGo cl none cd_184 0 3 ls st H = aIStore (fun ls st => aGo cl none cd_184 0 4 ls st H) ls 3 st) ∧
  (∀ ls st H, aGo cl none cd_184 0 5 ls st H = aRLoad (fun st => aGo cl none cd_184 0 6 ls st H) ls 0 st) ∧
  (∀ ls st H, aGo cl none cd_184 0 6 ls st H = aGet (fun st => aGo cl none cd_184 0 9 ls st H) 8 0 H st) ∧
  (∀ ls st H, aGo cl none cd_184 0 9 ls st H = aGo cl none cd_184 0 11 ls (.int 7 :: st) H) ∧
  (∀ ls st H, aGo cl none cd_184 0 11 ls st H = aIald (fun st => aGo cl none cd_184 0 12 ls st H) none H st) ∧
  (∀ ls st H, aGo cl none cd_184 0 12 ls st H = aIc (fun p st => aGo cl none cd_184 0 p ls st H) .ge 84 15 st) ∧
  (∀ ls st H, aGo cl none cd_184 0 15 ls st H = aILoad (fun st => aGo cl none cd_184 0 16 ls st H) ls 3 st) ∧
  (∀ ls st H, aGo cl none cd_184 0 16 ls st H = aRLoad (fun st => aGo cl none cd_184 0 17 ls st H) ls 0 st) ∧
  (∀ ls st H, aGo cl none cd_184 0 17 ls st H = aILoad (fun st => aGo cl none cd_184 0 18 ls st H) ls 1 st) ∧
  (∀ ls st H, aGo cl none cd_184 0 18 ls st H = aGo cl none cd_184 0 19 ls (.int 0 :: st) H) ∧
  (∀ ls st H, aGo cl none cd_184 0 19 ls st H = aCallV (fun st H => aGo cl none cd_184 0 22 ls st H) cl 126 2 8 H st) ∧
  (∀ ls st H, aGo cl none cd_184 0 22 ls st H = aIc (fun p st => aGo cl none cd_184 0 p ls st H) .eq 29 25 st) ∧
  (∀ ls st H, aGo cl none cd_184 0 25 ls st H = aGo cl none cd_184 0 26 ls (.int 1 :: st) H) ∧
  (∀ ls st H, aGo cl none cd_184 0 26 ls st H = aGo cl none cd_184 0 30 ls st H) ∧
  (∀ ls st H, aGo cl none cd_184 0 29 ls st H = aGo cl none cd_184 0 30 ls (.int 0 :: st) H) ∧
  (∀ ls st H, aGo cl none cd_184 0 30 ls st H = aIStore (fun ls st => aGo cl none cd_184 0 32 ls st H) ls 4 st) ∧
  (∀ ls st H, aGo cl none cd_184 0 32 ls st H = aILoad (fun st => aGo cl none cd_184 0 33 ls st H) ls 2 st) ∧
  (∀ ls st H, aGo cl none cd_184 0 33 ls st H = aILoad (fun st => aGo cl none cd_184 0 35 ls st H) ls 4 st) ∧
  (∀ ls st H, aGo cl none cd_184 0 35 ls st H = aIf (fun p st => aGo cl none cd_184 0 p ls st H) .eq 52 38 st) ∧
  (∀ ls st H, aGo cl none cd_184 0 38 ls st H = aRLoad (fun st => aGo cl none cd_184 0 39 ls st H) ls 0 st) ∧
  (∀ ls st H, aGo cl none cd_184 0 39 ls st H = aILoad (fun st => aGo cl none cd_184 0 40 ls st H) ls 3 st) ∧
  (∀ ls st H, aGo cl none cd_184 0 40 ls st H = aGo cl none cd_184 0 41 ls (.int 0 :: st) H) ∧
  (∀ ls st H, aGo cl none cd_184 0 41 ls st H = aCallV (fun st H => aGo cl none cd_184 0 44 ls st H) cl 157 2 8 H st) ∧
  (∀ ls st H, aGo cl none cd_184 0 44 ls st H = aILoad (fun st => aGo cl none cd_184 0 45 ls st H) ls 1 st) ∧
  (∀ ls st H, aGo cl none cd_184 0 45 ls st H = aIc (fun p st => aGo cl none cd_184 0 p ls st H) .ne 52 48 st) ∧
  (∀ ls st H, aGo cl none cd_184 0 48 ls st H = aGo cl none cd_184 0 49 ls (.int 1 :: st) H) ∧
  (∀ ls st H, aGo cl none cd_184 0 49 ls st H = aGo cl none cd_184 0 53 ls st H) ∧
  (∀ ls st H, aGo cl none cd_184 0 52 ls st H = aGo cl none cd_184 0 53 ls (.int 0 :: st) H) ∧
  (∀ ls st H, aGo cl none cd_184 0 53 ls st H = aBin (fun st => aGo cl none cd_184 0 54 ls st H) (fun x y => x + y) st) ∧
  (∀ ls st H, aGo cl none cd_184 0 54 ls st H = aIStore (fun ls st => aGo cl none cd_184 0 55 ls st H) ls 2 st) ∧
  (∀ ls st H, aGo cl none cd_184 0 55 ls st H = aILoad (fun st => aGo cl none cd_184 0 56 ls st H) ls 2 st) ∧
  (∀ ls st H, aGo cl none cd_184 0 56 ls st H = aILoad (fun st => aGo cl none cd_184 0 58 ls st H) ls 4 st) ∧
  (∀ ls st H, aGo cl none cd_184 0 58 ls st H = aIf (fun p st => aGo cl none cd_184 0 p ls st H) .eq 75 61 st) ∧
  (∀ ls st H, aGo cl none cd_184 0 61 ls st H = aRLoad (fun st => aGo cl none cd_184 0 62 ls st H) ls 0 st) ∧
  (∀ ls st H, aGo cl none cd_184 0 62 ls st H = aILoad (fun st => aGo cl none cd_184 0 63 ls st H) ls 3 st) ∧
  (∀ ls st H, aGo cl none cd_184 0 63 ls st H = aGo cl none cd_184 0 64 ls (.int 1 :: st) H) ∧
  (∀ ls st H, aGo cl none cd_184 0 64 ls st H = aCallV (fun st H => aGo cl none cd_184 0 67 ls st H) cl 157 2 8 H st) ∧
  (∀ ls st H, aGo cl none cd_184 0 67 ls st H = aILoad (fun st => aGo cl none cd_184 0 68 ls st H) ls 1 st) ∧
  (∀ ls st H, aGo cl none cd_184 0 68 ls st H = aIc (fun p st => aGo cl none cd_184 0 p ls st H) .ne 75 71 st) ∧
  (∀ ls st H, aGo cl none cd_184 0 71 ls st H = aGo cl none cd_184 0 72 ls (.int 1 :: st) H) ∧
  (∀ ls st H, aGo cl none cd_184 0 72 ls st H = aGo cl none cd_184 0 76 ls st H) ∧
  (∀ ls st H, aGo cl none cd_184 0 75 ls st H = aGo cl none cd_184 0 76 ls (.int 0 :: st) H) ∧
  (∀ ls st H, aGo cl none cd_184 0 76 ls st H = aBin (fun st => aGo cl none cd_184 0 77 ls st H) (fun x y => x + y) st) ∧
  (∀ ls st H, aGo cl none cd_184 0 77 ls st H = aIStore (fun ls st => aGo cl none cd_184 0 78 ls st H) ls 2 st) ∧
  (∀ ls st H, aGo cl none cd_184 0 78 ls st H = aInc (fun ls => aGo cl none cd_184 0 81 ls st H) ls 3 1) ∧
  (∀ ls st H, aGo cl none cd_184 0 81 ls st H = aGo cl none cd_184 0 4 ls st H) ∧
  (∀ ls st H, aGo cl none cd_184 0 84 ls st H = aILoad (fun st => aGo cl none cd_184 0 85 ls st H) ls 2 st) ∧
  (∀ ls st H, aGo cl none cd_184 0 85 ls st H = aIret 0 st H) :=
  ⟨fun _ _ _ => (aGo_s rfl).trans rfl, fun _ _ _ => (aGo_s rfl).trans rfl, fun _ _ _ => (aGo_s rfl).trans rfl, fun _ _ _ => (aGo_s rfl).trans rfl, fun _ _ _ => (aGo_s rfl).trans rfl, fun _ _ _ => (aGo_s rfl).trans rfl, fun _ _ _ => (aGo_s rfl).trans rfl, fun _ _ _ => (aGo_s rfl).trans rfl, fun _ _ _ => (aGo_s rfl).trans rfl, fun _ _ _ => (aGo_s rfl).trans rfl, fun _ _ _ => (aGo_s rfl).trans rfl, fun _ _ _ => (aGo_s rfl).trans rfl, fun _ _ _ => (aGo_s rfl).trans rfl, fun _ _ _ => (aGo_s rfl).trans rfl, fun _ _ _ => (aGo_s rfl).trans rfl, fun _ _ _ => (aGo_s rfl).trans rfl, fun _ _ _ => (aGo_s rfl).trans rfl, fun _ _ _ => (aGo_s rfl).trans rfl, fun _ _ _ => (aGo_s rfl).trans rfl, fun _ _ _ => (aGo_s rfl).trans rfl, fun _ _ _ => (aGo_s rfl).trans rfl, fun _ _ _ => (aGo_s rfl).trans rfl, fun _ _ _ => (aGo_s rfl).trans rfl, fun _ _ _ => (aGo_s rfl).trans rfl, fun _ _ _ => (aGo_s rfl).trans rfl, fun _ _ _ => (aGo_s rfl).trans rfl, fun _ _ _ => (aGo_s rfl).trans rfl, fun _ _ _ => (aGo_s rfl).trans rfl, fun _ _ _ => (aGo_s rfl).trans rfl, fun _ _ _ => (aGo_s rfl).trans rfl, fun _ _ _ => (aGo_s rfl).trans rfl, fun _ _ _ => (aGo_s rfl).trans rfl, fun _ _ _ => (aGo_s rfl).trans rfl, fun _ _ _ => (aGo_s rfl).trans rfl, fun _ _ _ => (aGo_s rfl).trans rfl, fun _ _ _ => (aGo_s rfl).trans rfl, fun _ _ _ => (aGo_s rfl).trans rfl, fun _ _ _ => (aGo_s rfl).trans rfl, fun _ _ _ => (aGo_s rfl).trans rfl, fun _ _ _ => (aGo_s rfl).trans rfl, fun _ _ _ => (aGo_s rfl).trans rfl, fun _ _ _ => (aGo_s rfl).trans rfl, fun _ _ _ => (aGo_s rfl).trans rfl, fun _ _ _ => (aGo_s rfl).trans rfl, fun _ _ _ => (aGo_s rfl).trans rfl, fun _ _ _ => (aGo_s rfl).trans rfl, fun _ _ _ => (aGo_s rfl).trans rfl, fun _ _ _ => (aGo_s rfl).trans rfl, fun _ _ _ => (aGo_s rfl).trans rfl, fun _ _ _ => (aGo_s rfl).trans rfl, fun _ _ _ => (aGo_s rfl).trans rfl⟩
theorem s_184_4 {cl : Nat → List Value → aH → aRs} : ∀ ls st H, aGo cl none cd_184 0 4 ls st H = aILoad (fun st => aGo cl none cd_184 0 5 ls st H) ls 3 st := fun _ _ _ => (aGo_s rfl).trans rfl
theorem e_184 {d : Nat} {x0 : Nat} {x1 : Int32} {H : aH} : aCall aMt (d + 1) 184 [.ref x0, .int x1] H = aGo (aCall aMt d) none cd_184 0 0 [some (.ref x0), some (.int x1), none, none, none] [] H := (c_0 rfl ⟨rfl, Nat.le_of_ble_eq_true rfl, Nat.le_of_ble_eq_true rfl⟩).trans rfl
theorem s_185 {cl : Nat → List Value → aH → aRs} : (∀ ls st H, aGo cl none cd_185 0 0 ls st H = aRLoad (fun st => aGo cl none cd_185 0 1 ls st H) ls 0 st) ∧
  (∀ ls st H, aGo cl none cd_185 0 1 ls st H = aILoad (fun st => aGo cl none cd_185 0 2 ls st H) ls 1 st) ∧
  (∀ ls st H, aGo cl none cd_185 0 2 ls st H = aCallV (fun st H => aGo cl none cd_185 0 5 ls st H) cl 123 1 8 H st) ∧
  (∀ ls st H, aGo cl none cd_185 0 5 ls st H = aIf (fun p st => aGo cl none cd_185 0 p ls st H) .ne 14 8 st) ∧
  (∀ ls st H, aGo cl none cd_185 0 8 ls st H = aRLoad (fun st => aGo cl none cd_185 0 9 ls st H) ls 0 st) ∧
  (∀ ls st H, aGo cl none cd_185 0 9 ls st H = aGo cl none cd_185 0 10 ls (.int 1 :: st) H) ∧
  (∀ ls st H, aGo cl none cd_185 0 10 ls st H = aCallV (fun st H => aGo cl none cd_185 0 13 ls st H) cl 116 1 8 H st) ∧
  (∀ ls st H, aGo cl none cd_185 0 13 ls st H = aIret 0 st H) ∧
  (∀ ls st H, aGo cl none cd_185 0 14 ls st H = aRLoad (fun st => aGo cl none cd_185 0 15 ls st H) ls 0 st) ∧
  (∀ ls st H, aGo cl none cd_185 0 15 ls st H = aILoad (fun st => aGo cl none cd_185 0 16 ls st H) ls 1 st) ∧
  (∀ ls st H, aGo cl none cd_185 0 16 ls st H = aCallV (fun st H => aGo cl none cd_185 0 19 ls st H) cl 129 1 8 H st) ∧
  (∀ ls st H, aGo cl none cd_185 0 19 ls st H = aIf (fun p st => aGo cl none cd_185 0 p ls st H) .ne 28 22 st) ∧
  (∀ ls st H, aGo cl none cd_185 0 22 ls st H = aRLoad (fun st => aGo cl none cd_185 0 23 ls st H) ls 0 st) ∧
  (∀ ls st H, aGo cl none cd_185 0 23 ls st H = aGo cl none cd_185 0 24 ls (.int 3 :: st) H) ∧
  (∀ ls st H, aGo cl none cd_185 0 24 ls st H = aCallV (fun st H => aGo cl none cd_185 0 27 ls st H) cl 116 1 8 H st) ∧
  (∀ ls st H, aGo cl none cd_185 0 27 ls st H = aIret 0 st H) ∧
  (∀ ls st H, aGo cl none cd_185 0 28 ls st H = aRLoad (fun st => aGo cl none cd_185 0 29 ls st H) ls 0 st) ∧
  (∀ ls st H, aGo cl none cd_185 0 29 ls st H = aILoad (fun st => aGo cl none cd_185 0 30 ls st H) ls 1 st) ∧
  (∀ ls st H, aGo cl none cd_185 0 30 ls st H = aGo cl none cd_185 0 31 ls (.int 1 :: st) H) ∧
  (∀ ls st H, aGo cl none cd_185 0 31 ls st H = aCallV (fun st H => aGo cl none cd_185 0 34 ls st H) cl 126 2 8 H st) ∧
  (∀ ls st H, aGo cl none cd_185 0 34 ls st H = aIStore (fun ls st => aGo cl none cd_185 0 35 ls st H) ls 2 st) ∧
  (∀ ls st H, aGo cl none cd_185 0 35 ls st H = aGo cl none cd_185 0 36 ls (.int (-1) :: st) H) ∧
  (∀ ls st H, aGo cl none cd_185 0 36 ls st H = aIStore (fun ls st => aGo cl none cd_185 0 37 ls st H) ls 3 st) ∧
  (∀ ls st H, aGo cl none cd_185 0 37 ls st H = aGo cl none cd_185 0 38 ls (.int 0 :: st) H) ∧
  (∀ ls st H, aGo cl none cd_185 0 38 ls st H = aIStore (fun ls st => aGo cl none cd_185 0 40 ls st H) ls 4 st) ∧
  (∀ ls st H, aGo cl none cd_185 0 40 ls st H = aGo cl none cd_185 0 41 ls (.int 0 :: st) H) ∧
  (∀ ls st H, aGo cl none cd_185 0 41 ls st H = aIStore (fun ls st => aGo cl none cd_185 0 43 ls st H) ls 5 st) ∧
  (∀ ls st H, aGo cl none cd_185 0 45 ls st H = aGo cl none cd_185 0 46 ls (.int 2 :: st) H) ∧
  (∀ ls st H, aGo cl none cd_185 0 46 ls st H = aIc (fun p st => aGo cl none cd_185 0 p ls st H) .gt 115 49 st) ∧
  (∀ ls st H, aGo cl none cd_185 0 49 ls st H = aRLoad (fun st => aGo cl none cd_185 0 50 ls st H) ls 0 st) ∧
  (∀ ls st H, aGo cl none cd_185 0 50 ls st H = aILoad (fun st => aGo cl none cd_185 0 51 ls st H) ls 1 st) ∧
  (∀ ls st H, aGo cl none cd_185 0 51 ls st H = aGo cl none cd_185 0 52 ls (.int 1 :: st) H) ∧
  (∀ ls st H, aGo cl none cd_185 0 52 ls st H = aILoad (fun st => aGo cl none cd_185 0 54 ls st H) ls 5 st) ∧
  (∀ ls st H, aGo cl none cd_185 0 54 ls st H = aCallV (fun st H => aGo cl none cd_185 0 57 ls st H) cl 127 3 8 H st) ∧
  (∀ ls st H, aGo cl none cd_185 0 57 ls st H = aRLoad (fun st => aGo cl none cd_185 0 58 ls st H) ls 0 st) ∧
  (∀ ls st H, aGo cl none cd_185 0 58 ls st H = aILoad (fun st => aGo cl none cd_185 0 59 ls st H) ls 1 st) ∧
  (∀ ls st H, aGo cl none cd_185 0 59 ls st H = aCallV (fun st H => aGo cl none cd_185 0 62 ls st H) cl 184 1 8 H st) ∧
  (∀ ls st H, aGo cl none cd_185 0 62 ls st H = aIStore (fun ls st => aGo cl none cd_185 0 64 ls st H) ls 6 st) ∧
  (∀ ls st H, aGo cl none cd_185 0 64 ls st H = aILoad (fun st => aGo cl none cd_185 0 65 ls st H) ls 3 st) ∧
  (∀ ls st H, aGo cl none cd_185 0 65 ls st H = aGo cl none cd_185 0 66 ls (.int (-1) :: st) H) ∧
  (∀ ls st H, aGo cl none cd_185 0 66 ls st H = aIc (fun p st => aGo cl none cd_185 0 p ls st H) .eq 76 69 st) ∧
  (∀ ls st H, aGo cl none cd_185 0 69 ls st H = aILoad (fun st => aGo cl none cd_185 0 71 ls st H) ls 6 st) ∧
  (∀ ls st H, aGo cl none cd_185 0 71 ls st H = aILoad (fun st => aGo cl none cd_185 0 73 ls st H) ls 4 st) ∧
  (∀ ls st H, aGo cl none cd_185 0 73 ls st H = aIc (fun p st => aGo cl none cd_185 0 p ls st H) .ge 80 76 st) ∧
  (∀ ls st H, aGo cl none cd_185 0 76 ls st H = aGo cl none cd_185 0 77 ls (.int 1 :: st) H) ∧
  (∀ ls st H, aGo cl none cd_185 0 77 ls st H = aGo cl none cd_185 0 81 ls st H) ∧
  (∀ ls st H, aGo cl none cd_185 0 80 ls st H = aGo cl none cd_185 0 81 ls (.int 0 :: st) H) ∧
  (∀ ls st H, aGo cl none cd_185 0 81 ls st H = aIStore (fun ls st => aGo cl none cd_185 0 83 ls st H) ls 7 st) ∧
  (∀ ls st H, aGo cl none cd_185 0 83 ls st H = aILoad (fun st => aGo cl none cd_185 0 85 ls st H) ls 7 st) ∧
  (∀ ls st H, aGo cl none cd_185 0 85 ls st H = aIf (fun p st => aGo cl none cd_185 0 p ls st H) .eq 93 88 st) ∧
  (∀ ls st H, aGo cl none cd_185 0 88 ls st H = aILoad (fun st => aGo cl none cd_185 0 90 ls st H) ls 5 st) ∧
  (∀ ls st H, aGo cl none cd_185 0 90 ls st H = aGo cl none cd_185 0 94 ls st H) ∧
  (∀ ls st H, aGo cl none cd_185 0 93 ls st H = aILoad (fun st => aGo cl none cd_185 0 94 ls st H) ls 3 st) ∧
  (∀ ls st H, aGo cl none cd_185 0 94 ls st H = aIStore (fun ls st => aGo cl none cd_185 0 95 ls st H) ls 3 st) ∧
  (∀ ls st H, aGo cl none cd_185 0 95 ls st H = aILoad (fun st => aGo cl none cd_185 0 97 ls st H) ls 7 st) ∧
  (∀ ls st H, aGo cl none cd_185 0 97 ls st H = aIf (fun p st => aGo cl none cd_185 0 p ls st H) .eq 105 100 st) ∧
  (∀ ls st H, aGo cl none cd_185 0 100 ls st H = aILoad (fun st => aGo cl none cd_185 0 102 ls st H) ls 6 st) ∧
  (∀ ls st H, aGo cl none cd_185 0 102 ls st H = aGo cl none cd_185 0 107 ls st H) ∧
  (∀ ls st H, aGo cl none cd_185 0 105 ls st H = aILoad (fun st => aGo cl none cd_185 0 107 ls st H) ls 4 st) ∧
  (∀ ls st H, aGo cl none cd_185 0 107 ls st H = aIStore (fun ls st => aGo cl none cd_185 0 109 ls st H) ls 4 st) ∧
  (∀ ls st H, aGo cl none cd_185 0 109 ls st H = aInc (fun ls => aGo cl none cd_185 0 112 ls st H) ls 5 1) ∧
  (∀ ls st H, aGo cl none cd_185 0 112 ls st H = aGo cl none cd_185 0 43 ls st H) ∧
  (∀ ls st H, aGo cl none cd_185 0 115 ls st H = aRLoad (fun st => aGo cl none cd_185 0 116 ls st H) ls 0 st) ∧
  (∀ ls st H, aGo cl none cd_185 0 116 ls st H = aILoad (fun st => aGo cl none cd_185 0 117 ls st H) ls 1 st) ∧
  (∀ ls st H, aGo cl none cd_185 0 117 ls st H = aGo cl none cd_185 0 118 ls (.int 1 :: st) H) ∧
  (∀ ls st H, aGo cl none cd_185 0 118 ls st H = aILoad (fun st => aGo cl none cd_185 0 119 ls st H) ls 2 st) ∧
  (∀ ls st H, aGo cl none cd_185 0 119 ls st H = aCallV (fun st H => aGo cl none cd_185 0 122 ls st H) cl 127 3 8 H st) ∧
  (∀ ls st H, aGo cl none cd_185 0 122 ls st H = aILoad (fun st => aGo cl none cd_185 0 123 ls st H) ls 3 st) ∧
  (∀ ls st H, aGo cl none cd_185 0 123 ls st H = aIret 0 st H) :=
  ⟨fun _ _ _ => (aGo_s rfl).trans rfl, fun _ _ _ => (aGo_s rfl).trans rfl, fun _ _ _ => (aGo_s rfl).trans rfl, fun _ _ _ => (aGo_s rfl).trans rfl, fun _ _ _ => (aGo_s rfl).trans rfl, fun _ _ _ => (aGo_s rfl).trans rfl, fun _ _ _ => (aGo_s rfl).trans rfl, fun _ _ _ => (aGo_s rfl).trans rfl, fun _ _ _ => (aGo_s rfl).trans rfl, fun _ _ _ => (aGo_s rfl).trans rfl, fun _ _ _ => (aGo_s rfl).trans rfl, fun _ _ _ => (aGo_s rfl).trans rfl, fun _ _ _ => (aGo_s rfl).trans rfl, fun _ _ _ => (aGo_s rfl).trans rfl, fun _ _ _ => (aGo_s rfl).trans rfl, fun _ _ _ => (aGo_s rfl).trans rfl, fun _ _ _ => (aGo_s rfl).trans rfl, fun _ _ _ => (aGo_s rfl).trans rfl, fun _ _ _ => (aGo_s rfl).trans rfl, fun _ _ _ => (aGo_s rfl).trans rfl, fun _ _ _ => (aGo_s rfl).trans rfl, fun _ _ _ => (aGo_s rfl).trans rfl, fun _ _ _ => (aGo_s rfl).trans rfl, fun _ _ _ => (aGo_s rfl).trans rfl, fun _ _ _ => (aGo_s rfl).trans rfl, fun _ _ _ => (aGo_s rfl).trans rfl, fun _ _ _ => (aGo_s rfl).trans rfl, fun _ _ _ => (aGo_s rfl).trans rfl, fun _ _ _ => (aGo_s rfl).trans rfl, fun _ _ _ => (aGo_s rfl).trans rfl, fun _ _ _ => (aGo_s rfl).trans rfl, fun _ _ _ => (aGo_s rfl).trans rfl, fun _ _ _ => (aGo_s rfl).trans rfl, fun _ _ _ => (aGo_s rfl).trans rfl, fun _ _ _ => (aGo_s rfl).trans rfl, fun _ _ _ => (aGo_s rfl).trans rfl, fun _ _ _ => (aGo_s rfl).trans rfl, fun _ _ _ => (aGo_s rfl).trans rfl, fun _ _ _ => (aGo_s rfl).trans rfl, fun _ _ _ => (aGo_s rfl).trans rfl, fun _ _ _ => (aGo_s rfl).trans rfl, fun _ _ _ => (aGo_s rfl).trans rfl, fun _ _ _ => (aGo_s rfl).trans rfl, fun _ _ _ => (aGo_s rfl).trans rfl, fun _ _ _ => (aGo_s rfl).trans rfl, fun _ _ _ => (aGo_s rfl).trans rfl, fun _ _ _ => (aGo_s rfl).trans rfl, fun _ _ _ => (aGo_s rfl).trans rfl, fun _ _ _ => (aGo_s rfl).trans rfl, fun _ _ _ => (aGo_s rfl).trans rfl, fun _ _ _ => (aGo_s rfl).trans rfl, fun _ _ _ => (aGo_s rfl).trans rfl, fun _ _ _ => (aGo_s rfl).trans rfl, fun _ _ _ => (aGo_s rfl).trans rfl, fun _ _ _ => (aGo_s rfl).trans rfl, fun _ _ _ => (aGo_s rfl).trans rfl, fun _ _ _ => (aGo_s rfl).trans rfl, fun _ _ _ => (aGo_s rfl).trans rfl, fun _ _ _ => (aGo_s rfl).trans rfl, fun _ _ _ => (aGo_s rfl).trans rfl, fun _ _ _ => (aGo_s rfl).trans rfl, fun _ _ _ => (aGo_s rfl).trans rfl, fun _ _ _ => (aGo_s rfl).trans rfl, fun _ _ _ => (aGo_s rfl).trans rfl, fun _ _ _ => (aGo_s rfl).trans rfl, fun _ _ _ => (aGo_s rfl).trans rfl, fun _ _ _ => (aGo_s rfl).trans rfl, fun _ _ _ => (aGo_s rfl).trans rfl, fun _ _ _ => (aGo_s rfl).trans rfl⟩
theorem s_185_43 {cl : Nat → List Value → aH → aRs} : ∀ ls st H, aGo cl none cd_185 0 43 ls st H = aILoad (fun st => aGo cl none cd_185 0 45 ls st H) ls 5 st := fun _ _ _ => (aGo_s rfl).trans rfl
theorem e_185 {d : Nat} {x0 : Nat} {x1 : Int32} {H : aH} : aCall aMt (d + 1) 185 [.ref x0, .int x1] H = aGo (aCall aMt d) none cd_185 0 0 [some (.ref x0), some (.int x1), none, none, none, none, none, none] [] H := (c_0 rfl ⟨rfl, Nat.le_of_ble_eq_true rfl, Nat.le_of_ble_eq_true rfl⟩).trans rfl
theorem s_186 {cl : Nat → List Value → aH → aRs} : (∀ ls st H, aGo cl none cd_186 1 0 ls st H = aGo cl none cd_186 1 1 ls (.int 1 :: st) H) ∧
  (∀ ls st H, aGo cl none cd_186 1 1 ls st H = aIStore (fun ls st => aGo cl none cd_186 1 2 ls st H) ls 2 st) ∧
  (∀ ls st H, aGo cl none cd_186 1 2 ls st H = aGo cl none cd_186 1 3 ls (.int 0 :: st) H) ∧
  (∀ ls st H, aGo cl none cd_186 1 3 ls st H = aIStore (fun ls st => aGo cl none cd_186 1 4 ls st H) ls 3 st) ∧
  (∀ ls st H, aGo cl none cd_186 1 5 ls st H = aRLoad (fun st => aGo cl none cd_186 1 6 ls st H) ls 0 st) ∧
  (∀ ls st H, aGo cl none cd_186 1 6 ls st H = aGet (fun st => aGo cl none cd_186 1 9 ls st H) 8 0 H st) ∧
  (∀ ls st H, aGo cl none cd_186 1 9 ls st H = aGo cl none cd_186 1 11 ls (.int 7 :: st) H) ∧
  (∀ ls st H, aGo cl none cd_186 1 11 ls st H = aIald (fun st => aGo cl none cd_186 1 12 ls st H) none H st) ∧
  (∀ ls st H, aGo cl none cd_186 1 12 ls st H = aIc (fun p st => aGo cl none cd_186 1 p ls st H) .ge 135 15 st) ∧
  (∀ ls st H, aGo cl none cd_186 1 15 ls st H = aILoad (fun st => aGo cl none cd_186 1 16 ls st H) ls 2 st) ∧
  (∀ ls st H, aGo cl none cd_186 1 16 ls st H = aIf (fun p st => aGo cl none cd_186 1 p ls st H) .eq 135 19 st) ∧
  (∀ ls st H, aGo cl none cd_186 1 19 ls st H = aGo cl none cd_186 1 20 ls (.int (-1) :: st) H) ∧
  (∀ ls st H, aGo cl none cd_186 1 20 ls st H = aIStore (fun ls st => aGo cl none cd_186 1 22 ls st H) ls 4 st) ∧
  (∀ ls st H, aGo cl none cd_186 1 22 ls st H = aGo cl none cd_186 1 23 ls (.int 0 :: st) H) ∧
  (∀ ls st H, aGo cl none cd_186 1 23 ls st H = aIStore (fun ls st => aGo cl none cd_186 1 25 ls st H) ls 5 st) ∧
  (∀ ls st H, aGo cl none cd_186 1 25 ls st H = aGo cl none cd_186 1 26 ls (.int 0 :: st) H) ∧
  (∀ ls st H, aGo cl none cd_186 1 26 ls st H = aIStore (fun ls st => aGo cl none cd_186 1 28 ls st H) ls 6 st) ∧
  (∀ ls st H, aGo cl none cd_186 1 30 ls st H = aRLoad (fun st => aGo cl none cd_186 1 31 ls st H) ls 0 st) ∧
  (∀ ls st H, aGo cl none cd_186 1 31 ls st H = aGet (fun st => aGo cl none cd_186 1 34 ls st H) 8 0 H st) ∧
  (∀ ls st H, aGo cl none cd_186 1 34 ls st H = aGo cl none cd_186 1 36 ls (.int 8 :: st) H) ∧
  (∀ ls st H, aGo cl none cd_186 1 36 ls st H = aIald (fun st => aGo cl none cd_186 1 37 ls st H) none H st) ∧
  (∀ ls st H, aGo cl none cd_186 1 37 ls st H = aIc (fun p st => aGo cl none cd_186 1 p ls st H) .ge 106 40 st) ∧
  (∀ ls st H, aGo cl none cd_186 1 40 ls st H = aILoad (fun st => aGo cl none cd_186 1 41 ls st H) ls 1 st) ∧
  (∀ ls st H, aGo cl none cd_186 1 41 ls st H = aILoad (fun st => aGo cl none cd_186 1 43 ls st H) ls 6 st) ∧
  (∀ ls st H, aGo cl none cd_186 1 43 ls st H = aBin (fun st => aGo cl none cd_186 1 44 ls st H) (fun x y => x >>> (y &&& 31)) st) ∧
  (∀ ls st H, aGo cl none cd_186 1 44 ls st H = aGo cl none cd_186 1 45 ls (.int 1 :: st) H) ∧
  (∀ ls st H, aGo cl none cd_186 1 45 ls st H = aBin (fun st => aGo cl none cd_186 1 46 ls st H) (fun x y => x &&& y) st) ∧
  (∀ ls st H, aGo cl none cd_186 1 46 ls st H = aGo cl none cd_186 1 47 ls (.int 1 :: st) H) ∧
  (∀ ls st H, aGo cl none cd_186 1 47 ls st H = aIc (fun p st => aGo cl none cd_186 1 p ls st H) .ne 54 50 st) ∧
  (∀ ls st H, aGo cl none cd_186 1 50 ls st H = aGo cl none cd_186 1 51 ls (.int 0 :: st) H) ∧
  (∀ ls st H, aGo cl none cd_186 1 51 ls st H = aGo cl none cd_186 1 66 ls st H) ∧
  (∀ ls st H, aGo cl none cd_186 1 54 ls st H = aRLoad (fun st => aGo cl none cd_186 1 55 ls st H) ls 0 st) ∧
  (∀ ls st H, aGo cl none cd_186 1 55 ls st H = aGet (fun st => aGo cl none cd_186 1 58 ls st H) 8 12 H st) ∧
  (∀ ls st H, aGo cl none cd_186 1 58 ls st H = aGo cl none cd_186 1 60 ls (.int 10 :: st) H) ∧
  (∀ ls st H, aGo cl none cd_186 1 60 ls st H = aILoad (fun st => aGo cl none cd_186 1 61 ls st H) ls 3 st) ∧
  (∀ ls st H, aGo cl none cd_186 1 61 ls st H = aBin (fun st => aGo cl none cd_186 1 62 ls st H) (fun x y => x * y) st) ∧
  (∀ ls st H, aGo cl none cd_186 1 62 ls st H = aILoad (fun st => aGo cl none cd_186 1 64 ls st H) ls 6 st) ∧
  (∀ ls st H, aGo cl none cd_186 1 64 ls st H = aBin (fun st => aGo cl none cd_186 1 65 ls st H) (fun x y => x + y) st) ∧
  (∀ ls st H, aGo cl none cd_186 1 65 ls st H = aIald (fun st => aGo cl none cd_186 1 66 ls st H) none H st) ∧
  (∀ ls st H, aGo cl none cd_186 1 66 ls st H = aIStore (fun ls st => aGo cl none cd_186 1 68 ls st H) ls 7 st) ∧
  (∀ ls st H, aGo cl none cd_186 1 68 ls st H = aILoad (fun st => aGo cl none cd_186 1 70 ls st H) ls 7 st) ∧
  (∀ ls st H, aGo cl none cd_186 1 70 ls st H = aILoad (fun st => aGo cl none cd_186 1 72 ls st H) ls 5 st) ∧
  (∀ ls st H, aGo cl none cd_186 1 72 ls st H = aIc (fun p st => aGo cl none cd_186 1 p ls st H) .le 80 75 st) ∧
  (∀ ls st H, aGo cl none cd_186 1 75 ls st H = aILoad (fun st => aGo cl none cd_186 1 77 ls st H) ls 6 st) ∧
  (∀ ls st H, aGo cl none cd_186 1 77 ls st H = aGo cl none cd_186 1 82 ls st H) ∧
  (∀ ls st H, aGo cl none cd_186 1 80 ls st H = aILoad (fun st => aGo cl none cd_186 1 82 ls st H) ls 4 st) ∧
  (∀ ls st H, aGo cl none cd_186 1 82 ls st H = aIStore (fun ls st => aGo cl none cd_186 1 84 ls st H) ls 4 st) ∧
  (∀ ls st H, aGo cl none cd_186 1 84 ls st H = aILoad (fun st => aGo cl none cd_186 1 86 ls st H) ls 7 st) ∧
  (∀ ls st H, aGo cl none cd_186 1 86 ls st H = aILoad (fun st => aGo cl none cd_186 1 88 ls st H) ls 5 st) ∧
  (∀ ls st H, aGo cl none cd_186 1 88 ls st H = aIc (fun p st => aGo cl none cd_186 1 p ls st H) .le 96 91 st) ∧
  (∀ ls st H, aGo cl none cd_186 1 91 ls st H = aILoad (fun st => aGo cl none cd_186 1 93 ls st H) ls 7 st) ∧
  (∀ ls st H, aGo cl none cd_186 1 93 ls st H = aGo cl none cd_186 1 98 ls st H) ∧
  (∀ ls st H, aGo cl none cd_186 1 96 ls st H = aILoad (fun st => aGo cl none cd_186 1 98 ls st H) ls 5 st) ∧
  (∀ ls st H, aGo cl none cd_186 1 98 ls st H = aIStore (fun ls st => aGo cl none cd_186 1 100 ls st H) ls 5 st) ∧
  (∀ ls st H, aGo cl none cd_186 1 100 ls st H = aInc (fun ls => aGo cl none cd_186 1 103 ls st H) ls 6 1) ∧
  (∀ ls st H, aGo cl none cd_186 1 103 ls st H = aGo cl none cd_186 1 28 ls st H) ∧
  (∀ ls st H, aGo cl none cd_186 1 106 ls st H = aILoad (fun st => aGo cl none cd_186 1 108 ls st H) ls 4 st) ∧
  (∀ ls st H, aGo cl none cd_186 1 108 ls st H = aGo cl none cd_186 1 109 ls (.int (-1) :: st) H) ∧
  (∀ ls st H, aGo cl none cd_186 1 109 ls st H = aIc (fun p st => aGo cl none cd_186 1 p ls st H) .eq 123 112 st) ∧
  (∀ ls st H, aGo cl none cd_186 1 112 ls st H = aRLoad (fun st => aGo cl none cd_186 1 113 ls st H) ls 0 st) ∧
  (∀ ls st H, aGo cl none cd_186 1 113 ls st H = aILoad (fun st => aGo cl none cd_186 1 115 ls st H) ls 4 st) ∧
  (∀ ls st H, aGo cl none cd_186 1 115 ls st H = aGo cl none cd_186 1 116 ls (.int 0 :: st) H) ∧
  (∀ ls st H, aGo cl none cd_186 1 116 ls st H = aCallV (fun st H => aGo cl none cd_186 1 119 ls st H) cl 126 2 8 H st) ∧
  (∀ ls st H, aGo cl none cd_186 1 119 ls st H = aILoad (fun st => aGo cl none cd_186 1 120 ls st H) ls 3 st) ∧
  (∀ ls st H, aGo cl none cd_186 1 120 ls st H = aIc (fun p st => aGo cl none cd_186 1 p ls st H) .ne 127 123 st) ∧
  (∀ ls st H, aGo cl none cd_186 1 123 ls st H = aGo cl none cd_186 1 124 ls (.int 1 :: st) H) ∧
  (∀ ls st H, aGo cl none cd_186 1 124 ls st H = aGo cl none cd_186 1 128 ls st H) ∧
  (∀ ls st H, aGo cl none cd_186 1 127 ls st H = aGo cl none cd_186 1 128 ls (.int 0 :: st) H) ∧
  (∀ ls st H, aGo cl none cd_186 1 128 ls st H = aIStore (fun ls st => aGo cl none cd_186 1 129 ls st H) ls 2 st) ∧
  (∀ ls st H, aGo cl none cd_186 1 129 ls st H = aInc (fun ls => aGo cl none cd_186 1 132 ls st H) ls 3 1) ∧
  (∀ ls st H, aGo cl none cd_186 1 132 ls st H = aGo cl none cd_186 1 4 ls st H) ∧
  (∀ ls st H, aGo cl none cd_186 1 135 ls st H = aILoad (fun st => aGo cl none cd_186 1 136 ls st H) ls 2 st) ∧
  (∀ ls st H, aGo cl none cd_186 1 136 ls st H = aIret 1 st H) :=
  ⟨fun _ _ _ => (aGo_s rfl).trans rfl, fun _ _ _ => (aGo_s rfl).trans rfl, fun _ _ _ => (aGo_s rfl).trans rfl, fun _ _ _ => (aGo_s rfl).trans rfl, fun _ _ _ => (aGo_s rfl).trans rfl, fun _ _ _ => (aGo_s rfl).trans rfl, fun _ _ _ => (aGo_s rfl).trans rfl, fun _ _ _ => (aGo_s rfl).trans rfl, fun _ _ _ => (aGo_s rfl).trans rfl, fun _ _ _ => (aGo_s rfl).trans rfl, fun _ _ _ => (aGo_s rfl).trans rfl, fun _ _ _ => (aGo_s rfl).trans rfl, fun _ _ _ => (aGo_s rfl).trans rfl, fun _ _ _ => (aGo_s rfl).trans rfl, fun _ _ _ => (aGo_s rfl).trans rfl, fun _ _ _ => (aGo_s rfl).trans rfl, fun _ _ _ => (aGo_s rfl).trans rfl, fun _ _ _ => (aGo_s rfl).trans rfl, fun _ _ _ => (aGo_s rfl).trans rfl, fun _ _ _ => (aGo_s rfl).trans rfl, fun _ _ _ => (aGo_s rfl).trans rfl, fun _ _ _ => (aGo_s rfl).trans rfl, fun _ _ _ => (aGo_s rfl).trans rfl, fun _ _ _ => (aGo_s rfl).trans rfl, fun _ _ _ => (aGo_s rfl).trans rfl, fun _ _ _ => (aGo_s rfl).trans rfl, fun _ _ _ => (aGo_s rfl).trans rfl, fun _ _ _ => (aGo_s rfl).trans rfl, fun _ _ _ => (aGo_s rfl).trans rfl, fun _ _ _ => (aGo_s rfl).trans rfl, fun _ _ _ => (aGo_s rfl).trans rfl, fun _ _ _ => (aGo_s rfl).trans rfl, fun _ _ _ => (aGo_s rfl).trans rfl, fun _ _ _ => (aGo_s rfl).trans rfl, fun _ _ _ => (aGo_s rfl).trans rfl, fun _ _ _ => (aGo_s rfl).trans rfl, fun _ _ _ => (aGo_s rfl).trans rfl, fun _ _ _ => (aGo_s rfl).trans rfl, fun _ _ _ => (aGo_s rfl).trans rfl, fun _ _ _ => (aGo_s rfl).trans rfl, fun _ _ _ => (aGo_s rfl).trans rfl, fun _ _ _ => (aGo_s rfl).trans rfl, fun _ _ _ => (aGo_s rfl).trans rfl, fun _ _ _ => (aGo_s rfl).trans rfl, fun _ _ _ => (aGo_s rfl).trans rfl, fun _ _ _ => (aGo_s rfl).trans rfl, fun _ _ _ => (aGo_s rfl).trans rfl, fun _ _ _ => (aGo_s rfl).trans rfl, fun _ _ _ => (aGo_s rfl).trans rfl, fun _ _ _ => (aGo_s rfl).trans rfl, fun _ _ _ => (aGo_s rfl).trans rfl, fun _ _ _ => (aGo_s rfl).trans rfl, fun _ _ _ => (aGo_s rfl).trans rfl, fun _ _ _ => (aGo_s rfl).trans rfl, fun _ _ _ => (aGo_s rfl).trans rfl, fun _ _ _ => (aGo_s rfl).trans rfl, fun _ _ _ => (aGo_s rfl).trans rfl, fun _ _ _ => (aGo_s rfl).trans rfl, fun _ _ _ => (aGo_s rfl).trans rfl, fun _ _ _ => (aGo_s rfl).trans rfl, fun _ _ _ => (aGo_s rfl).trans rfl, fun _ _ _ => (aGo_s rfl).trans rfl, fun _ _ _ => (aGo_s rfl).trans rfl, fun _ _ _ => (aGo_s rfl).trans rfl, fun _ _ _ => (aGo_s rfl).trans rfl, fun _ _ _ => (aGo_s rfl).trans rfl, fun _ _ _ => (aGo_s rfl).trans rfl, fun _ _ _ => (aGo_s rfl).trans rfl, fun _ _ _ => (aGo_s rfl).trans rfl, fun _ _ _ => (aGo_s rfl).trans rfl, fun _ _ _ => (aGo_s rfl).trans rfl, fun _ _ _ => (aGo_s rfl).trans rfl, fun _ _ _ => (aGo_s rfl).trans rfl⟩
theorem s_186_4 {cl : Nat → List Value → aH → aRs} : ∀ ls st H, aGo cl none cd_186 1 4 ls st H = aILoad (fun st => aGo cl none cd_186 1 5 ls st H) ls 3 st := fun _ _ _ => (aGo_s rfl).trans rfl
theorem s_186_28 {cl : Nat → List Value → aH → aRs} : ∀ ls st H, aGo cl none cd_186 1 28 ls st H = aILoad (fun st => aGo cl none cd_186 1 30 ls st H) ls 6 st := fun _ _ _ => (aGo_s rfl).trans rfl
theorem e_186 {d : Nat} {x0 : Nat} {x1 : Int32} {H : aH} : aCall aMt (d + 1) 186 [.ref x0, .int x1] H = aGo (aCall aMt d) none cd_186 1 0 [some (.ref x0), some (.int x1), none, none, none, none, none, none] [] H := (c_0 rfl ⟨rfl, Nat.le_of_ble_eq_true rfl, Nat.le_of_ble_eq_true rfl⟩).trans rfl
theorem s_187 {cl : Nat → List Value → aH → aRs} : (∀ ls st H, aGo cl none cd_187 0 0 ls st H = aGo cl none cd_187 0 1 ls (.int 0 :: st) H) ∧
  (∀ ls st H, aGo cl none cd_187 0 1 ls st H = aIStore (fun ls st => aGo cl none cd_187 0 2 ls st H) ls 1 st) ∧
  (∀ ls st H, aGo cl none cd_187 0 2 ls st H = aILoad (fun st => aGo cl none cd_187 0 3 ls st H) ls 0 st) ∧
  (∀ ls st H, aGo cl none cd_187 0 3 ls st H = aIStore (fun ls st => aGo cl none cd_187 0 4 ls st H) ls 2 st) ∧
  (∀ ls st H, aGo cl none cd_187 0 5 ls st H = aIf (fun p st => aGo cl none cd_187 0 p ls st H) .eq 20 8 st) ∧
  (∀ ls st H, aGo cl none cd_187 0 8 ls st H = aInc (fun ls => aGo cl none cd_187 0 11 ls st H) ls 1 1) ∧
  (∀ ls st H, aGo cl none cd_187 0 11 ls st H = aILoad (fun st => aGo cl none cd_187 0 12 ls st H) ls 2 st) ∧
  (∀ ls st H, aGo cl none cd_187 0 12 ls st H = aILoad (fun st => aGo cl none cd_187 0 13 ls st H) ls 2 st) ∧
  (∀ ls st H, aGo cl none cd_187 0 13 ls st H = aGo cl none cd_187 0 14 ls (.int 1 :: st) H) ∧
  (∀ ls st H, aGo cl none cd_187 0 14 ls st H = aBin (fun st => aGo cl none cd_187 0 15 ls st H) (fun x y => x - y) st) ∧
  (∀ ls st H, aGo cl none cd_187 0 15 ls st H = aBin (fun st => aGo cl none cd_187 0 16 ls st H) (fun x y => x &&& y) st) ∧
  (∀ ls st H, aGo cl none cd_187 0 16 ls st H = aIStore (fun ls st => aGo cl none cd_187 0 17 ls st H) ls 2 st) ∧
  (∀ ls st H, aGo cl none cd_187 0 17 ls st H = aGo cl none cd_187 0 4 ls st H) ∧
  (∀ ls st H, aGo cl none cd_187 0 20 ls st H = aILoad (fun st => aGo cl none cd_187 0 21 ls st H) ls 1 st) ∧
  (∀ ls st H, aGo cl none cd_187 0 21 ls st H = aIret 0 st H) :=
  ⟨fun _ _ _ => (aGo_s rfl).trans rfl, fun _ _ _ => (aGo_s rfl).trans rfl, fun _ _ _ => (aGo_s rfl).trans rfl, fun _ _ _ => (aGo_s rfl).trans rfl, fun _ _ _ => (aGo_s rfl).trans rfl, fun _ _ _ => (aGo_s rfl).trans rfl, fun _ _ _ => (aGo_s rfl).trans rfl, fun _ _ _ => (aGo_s rfl).trans rfl, fun _ _ _ => (aGo_s rfl).trans rfl, fun _ _ _ => (aGo_s rfl).trans rfl, fun _ _ _ => (aGo_s rfl).trans rfl, fun _ _ _ => (aGo_s rfl).trans rfl, fun _ _ _ => (aGo_s rfl).trans rfl, fun _ _ _ => (aGo_s rfl).trans rfl, fun _ _ _ => (aGo_s rfl).trans rfl⟩
theorem s_187_4 {cl : Nat → List Value → aH → aRs} : ∀ ls st H, aGo cl none cd_187 0 4 ls st H = aILoad (fun st => aGo cl none cd_187 0 5 ls st H) ls 2 st := fun _ _ _ => (aGo_s rfl).trans rfl
theorem e_187 {d : Nat} {x0 : Int32} {H : aH} : aCall aMt (d + 1) 187 [.int x0] H = aGo (aCall aMt d) none cd_187 0 0 [some (.int x0), none, none] [] H := (c_0 rfl ⟨rfl, Nat.le_of_ble_eq_true rfl, Nat.le_of_ble_eq_true rfl⟩).trans rfl
theorem s_188 {cl : Nat → List Value → aH → aRs} : (∀ ls st H, aGo cl none cd_188 0 0 ls st H = aILoad (fun st => aGo cl none cd_188 0 1 ls st H) ls 1 st) ∧
  (∀ ls st H, aGo cl none cd_188 0 1 ls st H = aGo cl none cd_188 0 2 ls (.int 0 :: st) H) ∧
  (∀ ls st H, aGo cl none cd_188 0 2 ls st H = aGo cl none cd_188 0 3 ls (.int 1 :: st) H) ∧
  (∀ ls st H, aGo cl none cd_188 0 3 ls st H = aCallI (fun st H => aGo cl none cd_188 0 6 ls st H) cl 117 3 H st) ∧
  (∀ ls st H, aGo cl none cd_188 0 6 ls st H = aIf (fun p st => aGo cl none cd_188 0 p ls st H) .ne 15 9 st) ∧
  (∀ ls st H, aGo cl none cd_188 0 9 ls st H = aRLoad (fun st => aGo cl none cd_188 0 10 ls st H) ls 0 st) ∧
  (∀ ls st H, aGo cl none cd_188 0 10 ls st H = aGo cl none cd_188 0 11 ls (.int 1 :: st) H) ∧
  (∀ ls st H, aGo cl none cd_188 0 11 ls st H = aCallV (fun st H => aGo cl none cd_188 0 14 ls st H) cl 116 1 8 H st) ∧
  (∀ ls st H, aGo cl none cd_188 0 14 ls st H = aIret 0 st H) ∧
  (∀ ls st H, aGo cl none cd_188 0 15 ls st H = aGo cl none cd_188 0 16 ls (.int 0 :: st) H) ∧
  (∀ ls st H, aGo cl none cd_188 0 16 ls st H = aIStore (fun ls st => aGo cl none cd_188 0 17 ls st H) ls 2 st) ∧
  (∀ ls st H, aGo cl none cd_188 0 17 ls st H = aGo cl none cd_188 0 18 ls (.int 0 :: st) H) ∧
  (∀ ls st H, aGo cl none cd_188 0 18 ls st H = aIStore (fun ls st => aGo cl none cd_188 0 19 ls st H) ls 3 st) ∧
  (∀ ls st H, aGo cl none cd_188 0 20 ls st H = aRLoad (fun st => aGo cl none cd_188 0 21 ls st H) ls 0 st) ∧
  (∀ ls st H, aGo cl none cd_188 0 21 ls st H = aGet (fun st => aGo cl none cd_188 0 24 ls st H) 8 0 H st) ∧
  (∀ ls st H, aGo cl none cd_188 0 24 ls st H = aGo cl none cd_188 0 26 ls (.int 8 :: st) H) ∧
  (∀ ls st H, aGo cl none cd_188 0 26 ls st H = aIald (fun st => aGo cl none cd_188 0 27 ls st H) none H st) ∧
  (∀ ls st H, aGo cl none cd_188 0 27 ls st H = aIc (fun p st => aGo cl none cd_188 0 p ls st H) .ge 107 30 st) ∧
  (∀ ls st H, aGo cl none cd_188 0 30 ls st H = aILoad (fun st => aGo cl none cd_188 0 31 ls st H) ls 2 st) ∧
  (∀ ls st H, aGo cl none cd_188 0 31 ls st H = aRLoad (fun st => aGo cl none cd_188 0 32 ls st H) ls 0 st) ∧
  (∀ ls st H, aGo cl none cd_188 0 32 ls st H = aILoad (fun st => aGo cl none cd_188 0 33 ls st H) ls 3 st) ∧
  (∀ ls st H, aGo cl none cd_188 0 33 ls st H = aCallV (fun st H => aGo cl none cd_188 0 36 ls st H) cl 156 1 8 H st) ∧
  (∀ ls st H, aGo cl none cd_188 0 36 ls st H = aIf (fun p st => aGo cl none cd_188 0 p ls st H) .eq 45 39 st) ∧
  (∀ ls st H, aGo cl none cd_188 0 39 ls st H = aGo cl none cd_188 0 40 ls (.int 1 :: st) H) ∧
  (∀ ls st H, aGo cl none cd_188 0 40 ls st H = aILoad (fun st => aGo cl none cd_188 0 41 ls st H) ls 3 st) ∧
  (∀ ls st H, aGo cl none cd_188 0 41 ls st H = aBin (fun st => aGo cl none cd_188 0 42 ls st H) (fun x y => x <<< (y &&& 31)) st) ∧
  (∀ ls st H, aGo cl none cd_188 0 42 ls st H = aGo cl none cd_188 0 46 ls st H) ∧
  (∀ ls st H, aGo cl none cd_188 0 45 ls st H = aGo cl none cd_188 0 46 ls (.int 0 :: st) H) ∧
  (∀ ls st H, aGo cl none cd_188 0 46 ls st H = aBin (fun st => aGo cl none cd_188 0 47 ls st H) (fun x y => x ||| y) st) ∧
  (∀ ls st H, aGo cl none cd_188 0 47 ls st H = aIStore (fun ls st => aGo cl none cd_188 0 48 ls st H) ls 2 st) ∧
  (∀ ls st H, aGo cl none cd_188 0 48 ls st H = aGo cl none cd_188 0 49 ls (.int 0 :: st) H) ∧
  (∀ ls st H, aGo cl none cd_188 0 49 ls st H = aIStore (fun ls st => aGo cl none cd_188 0 51 ls st H) ls 4 st) ∧
  (∀ ls st H, aGo cl none cd_188 0 53 ls st H = aRLoad (fun st => aGo cl none cd_188 0 54 ls st H) ls 0 st) ∧
  (∀ ls st H, aGo cl none cd_188 0 54 ls st H = aGet (fun st => aGo cl none cd_188 0 57 ls st H) 8 0 H st) ∧
  (∀ ls st H, aGo cl none cd_188 0 57 ls st H = aGo cl none cd_188 0 59 ls (.int 7 :: st) H) ∧
  (∀ ls st H, aGo cl none cd_188 0 59 ls st H = aIald (fun st => aGo cl none cd_188 0 60 ls st H) none H st) ∧
  (∀ ls st H, aGo cl none cd_188 0 60 ls st H = aIc (fun p st => aGo cl none cd_188 0 p ls st H) .ge 101 63 st) ∧
  (∀ ls st H, aGo cl none cd_188 0 63 ls st H = aRLoad (fun st => aGo cl none cd_188 0 64 ls st H) ls 0 st) ∧
  (∀ ls st H, aGo cl none cd_188 0 64 ls st H = aGet (fun st => aGo cl none cd_188 0 67 ls st H) 8 12 H st) ∧
  (∀ ls st H, aGo cl none cd_188 0 67 ls st H = aGo cl none cd_188 0 69 ls (.int 10 :: st) H) ∧
  (∀ ls st H, aGo cl none cd_188 0 69 ls st H = aILoad (fun st => aGo cl none cd_188 0 71 ls st H) ls 4 st) ∧
  (∀ ls st H, aGo cl none cd_188 0 71 ls st H = aBin (fun st => aGo cl none cd_188 0 72 ls st H) (fun x y => x * y) st) ∧
  (∀ ls st H, aGo cl none cd_188 0 72 ls st H = aILoad (fun st => aGo cl none cd_188 0 73 ls st H) ls 3 st) ∧
  (∀ ls st H, aGo cl none cd_188 0 73 ls st H = aBin (fun st => aGo cl none cd_188 0 74 ls st H) (fun x y => x + y) st) ∧
  (∀ ls st H, aGo cl none cd_188 0 74 ls st H = aRLoad (fun st => aGo cl none cd_188 0 75 ls st H) ls 0 st) ∧
  (∀ ls st H, aGo cl none cd_188 0 75 ls st H = aILoad (fun st => aGo cl none cd_188 0 76 ls st H) ls 3 st) ∧
  (∀ ls st H, aGo cl none cd_188 0 76 ls st H = aCallV (fun st H => aGo cl none cd_188 0 79 ls st H) cl 156 1 8 H st) ∧
  (∀ ls st H, aGo cl none cd_188 0 79 ls st H = aIf (fun p st => aGo cl none cd_188 0 p ls st H) .eq 93 82 st) ∧
  (∀ ls st H, aGo cl none cd_188 0 82 ls st H = aRLoad (fun st => aGo cl none cd_188 0 83 ls st H) ls 0 st) ∧
  (∀ ls st H, aGo cl none cd_188 0 83 ls st H = aILoad (fun st => aGo cl none cd_188 0 85 ls st H) ls 4 st) ∧
  (∀ ls st H, aGo cl none cd_188 0 85 ls st H = aILoad (fun st => aGo cl none cd_188 0 86 ls st H) ls 3 st) ∧
  (∀ ls st H, aGo cl none cd_188 0 86 ls st H = aGo cl none cd_188 0 87 ls (.int 0 :: st) H) ∧
  (∀ ls st H, aGo cl none cd_188 0 87 ls st H = aCallV (fun st H => aGo cl none cd_188 0 90 ls st H) cl 155 3 8 H st) ∧
  (∀ ls st H, aGo cl none cd_188 0 90 ls st H = aGo cl none cd_188 0 94 ls st H) ∧
  (∀ ls st H, aGo cl none cd_188 0 93 ls st H = aGo cl none cd_188 0 94 ls (.int 0 :: st) H) ∧
  (∀ ls st H, aGo cl none cd_188 0 94 ls st H = aIast (fun st H => aGo cl none cd_188 0 95 ls st H) H st) ∧
  (∀ ls st H, aGo cl none cd_188 0 95 ls st H = aInc (fun ls => aGo cl none cd_188 0 98 ls st H) ls 4 1) ∧
  (∀ ls st H, aGo cl none cd_188 0 98 ls st H = aGo cl none cd_188 0 51 ls st H) ∧
  (∀ ls st H, aGo cl none cd_188 0 101 ls st H = aInc (fun ls => aGo cl none cd_188 0 104 ls st H) ls 3 1) ∧
  (∀ ls st H, aGo cl none cd_188 0 104 ls st H = aGo cl none cd_188 0 19 ls st H) ∧
  (∀ ls st H, aGo cl none cd_188 0 107 ls st H = aILoad (fun st => aGo cl none cd_188 0 108 ls st H) ls 2 st) ∧
  (∀ ls st H, aGo cl none cd_188 0 108 ls st H = aIStore (fun ls st => aGo cl none cd_188 0 109 ls st H) ls 3 st) ∧
  (∀ ls st H, aGo cl none cd_188 0 109 ls st H = aGo cl none cd_188 0 110 ls (.int 0 :: st) H) ∧
  (∀ ls st H, aGo cl none cd_188 0 110 ls st H = aIStore (fun ls st => aGo cl none cd_188 0 112 ls st H) ls 4 st) ∧
  (∀ ls st H, aGo cl none cd_188 0 114 ls st H = aILoad (fun st => aGo cl none cd_188 0 115 ls st H) ls 2 st) ∧
  (∀ ls st H, aGo cl none cd_188 0 115 ls st H = aIc (fun p st => aGo cl none cd_188 0 p ls st H) .gt 191 118 st) ∧
  (∀ ls st H, aGo cl none cd_188 0 118 ls st H = aILoad (fun st => aGo cl none cd_188 0 120 ls st H) ls 4 st) ∧
  (∀ ls st H, aGo cl none cd_188 0 120 ls st H = aILoad (fun st => aGo cl none cd_188 0 121 ls st H) ls 2 st) ∧
  (∀ ls st H, aGo cl none cd_188 0 121 ls st H = aGo cl none cd_188 0 122 ls (.int (-1) :: st) H) ∧
  (∀ ls st H, aGo cl none cd_188 0 122 ls st H = aBin (fun st => aGo cl none cd_188 0 123 ls st H) (fun x y => x ^^^ y) st) ∧
  (∀ ls st H, aGo cl none cd_188 0 123 ls st H = aBin (fun st => aGo cl none cd_188 0 124 ls st H) (fun x y => x &&& y) st) ∧
  (∀ ls st H, aGo cl none cd_188 0 124 ls st H = aIf (fun p st => aGo cl none cd_188 0 p ls st H) .ne 161 127 st) ∧
  (∀ ls st H, aGo cl none cd_188 0 127 ls st H = aILoad (fun st => aGo cl none cd_188 0 129 ls st H) ls 4 st) ∧
  (∀ ls st H, aGo cl none cd_188 0 129 ls st H = aCallI (fun st H => aGo cl none cd_188 0 132 ls st H) cl 187 1 H st) ∧
  (∀ ls st H, aGo cl none cd_188 0 132 ls st H = aILoad (fun st => aGo cl none cd_188 0 133 ls st H) ls 3 st) ∧
  (∀ ls st H, aGo cl none cd_188 0 133 ls st H = aCallI (fun st H => aGo cl none cd_188 0 136 ls st H) cl 187 1 H st) ∧
  (∀ ls st H, aGo cl none cd_188 0 136 ls st H = aIc (fun p st => aGo cl none cd_188 0 p ls st H) .lt 157 139 st) ∧
  (∀ ls st H, aGo cl none cd_188 0 139 ls st H = aILoad (fun st => aGo cl none cd_188 0 141 ls st H) ls 4 st) ∧
  (∀ ls st H, aGo cl none cd_188 0 141 ls st H = aCallI (fun st H => aGo cl none cd_188 0 144 ls st H) cl 187 1 H st) ∧
  (∀ ls st H, aGo cl none cd_188 0 144 ls st H = aILoad (fun st => aGo cl none cd_188 0 145 ls st H) ls 3 st) ∧
  (∀ ls st H, aGo cl none cd_188 0 145 ls st H = aCallI (fun st H => aGo cl none cd_188 0 148 ls st H) cl 187 1 H st) ∧
  (∀ ls st H, aGo cl none cd_188 0 148 ls st H = aIc (fun p st => aGo cl none cd_188 0 p ls st H) .ne 161 151 st) ∧
  (∀ ls st H, aGo cl none cd_188 0 151 ls st H = aILoad (fun st => aGo cl none cd_188 0 153 ls st H) ls 4 st) ∧
  (∀ ls st H, aGo cl none cd_188 0 153 ls st H = aILoad (fun st => aGo cl none cd_188 0 154 ls st H) ls 3 st) ∧
  (∀ ls st H, aGo cl none cd_188 0 154 ls st H = aIc (fun p st => aGo cl none cd_188 0 p ls st H) .ge 161 157 st) ∧
  (∀ ls st H, aGo cl none cd_188 0 157 ls st H = aGo cl none cd_188 0 158 ls (.int 1 :: st) H) ∧
  (∀ ls st H, aGo cl none cd_188 0 158 ls st H = aGo cl none cd_188 0 162 ls st H) ∧
  (∀ ls st H, aGo cl none cd_188 0 161 ls st H = aGo cl none cd_188 0 162 ls (.int 0 :: st) H) ∧
  (∀ ls st H, aGo cl none cd_188 0 162 ls st H = aIStore (fun ls st => aGo cl none cd_188 0 164 ls st H) ls 5 st) ∧
  (∀ ls st H, aGo cl none cd_188 0 164 ls st H = aILoad (fun st => aGo cl none cd_188 0 166 ls st H) ls 5 st) ∧
  (∀ ls st H, aGo cl none cd_188 0 166 ls st H = aIf (fun p st => aGo cl none cd_188 0 p ls st H) .eq 183 169 st) ∧
  (∀ ls st H, aGo cl none cd_188 0 169 ls st H = aRLoad (fun st => aGo cl none cd_188 0 170 ls st H) ls 0 st) ∧
  (∀ ls st H, aGo cl none cd_188 0 170 ls st H = aILoad (fun st => aGo cl none cd_188 0 172 ls st H) ls 4 st) ∧
  (∀ ls st H, aGo cl none cd_188 0 172 ls st H = aCallV (fun st H => aGo cl none cd_188 0 175 ls st H) cl 186 1 8 H st) ∧
  (∀ ls st H, aGo cl none cd_188 0 175 ls st H = aIf (fun p st => aGo cl none cd_188 0 p ls st H) .eq 183 178 st) ∧
  (∀ ls st H, aGo cl none cd_188 0 178 ls st H = aILoad (fun st => aGo cl none cd_188 0 180 ls st H) ls 4 st) ∧
  (∀ ls st H, aGo cl none cd_188 0 180 ls st H = aGo cl none cd_188 0 184 ls st H) ∧
  (∀ ls st H, aGo cl none cd_188 0 183 ls st H = aILoad (fun st => aGo cl none cd_188 0 184 ls st H) ls 3 st) ∧
  (∀ ls st H, aGo cl none cd_188 0 184 ls st H = aIStore (fun ls st => aGo cl none cd_188 0 185 ls st H) ls 3 st) ∧
  (∀ ls st H, aGo cl none cd_188 0 185 ls st H = aInc (fun ls => aGo cl none cd_188 0 188 ls st H) ls 4 1) ∧
  (∀ ls st H, aGo cl none cd_188 0 188 ls st H = aGo cl none cd_188 0 112 ls st H) ∧
  (∀ ls st H, aGo cl none cd_188 0 191 ls st H = aILoad (fun st => aGo cl none cd_188 0 192 ls st H) ls 1 st) ∧
  (∀ ls st H, aGo cl none cd_188 0 192 ls st H = aIf (fun p st => aGo cl none cd_188 0 p ls st H) .ne 202 195 st) ∧
  (∀ ls st H, aGo cl none cd_188 0 195 ls st H = aILoad (fun st => aGo cl none cd_188 0 196 ls st H) ls 3 st) ∧
  (∀ ls st H, aGo cl none cd_188 0 196 ls st H = aCallI (fun st H => aGo cl none cd_188 0 199 ls st H) cl 187 1 H st) ∧
  (∀ ls st H, aGo cl none cd_188 0 199 ls st H = aGo cl none cd_188 0 203 ls st H) ∧
  (∀ ls st H, aGo cl none cd_188 0 202 ls st H = aILoad (fun st => aGo cl none cd_188 0 203 ls st H) ls 3 st) ∧
  (∀ ls st H, aGo cl none cd_188 0 203 ls st H = aIret 0 st H) :=
  ⟨fun _ _ _ => (aGo_s rfl).trans rfl, fun _ _ _ => (aGo_s rfl).trans rfl, fun _ _ _ => (aGo_s rfl).trans rfl, fun _ _ _ => (aGo_s rfl).trans rfl, fun _ _ _ => (aGo_s rfl).trans rfl, fun _ _ _ => (aGo_s rfl).trans rfl, fun _ _ _ => (aGo_s rfl).trans rfl, fun _ _ _ => (aGo_s rfl).trans rfl, fun _ _ _ => (aGo_s rfl).trans rfl, fun _ _ _ => (aGo_s rfl).trans rfl, fun _ _ _ => (aGo_s rfl).trans rfl, fun _ _ _ => (aGo_s rfl).trans rfl, fun _ _ _ => (aGo_s rfl).trans rfl, fun _ _ _ => (aGo_s rfl).trans rfl, fun _ _ _ => (aGo_s rfl).trans rfl, fun _ _ _ => (aGo_s rfl).trans rfl, fun _ _ _ => (aGo_s rfl).trans rfl, fun _ _ _ => (aGo_s rfl).trans rfl, fun _ _ _ => (aGo_s rfl).trans rfl, fun _ _ _ => (aGo_s rfl).trans rfl, fun _ _ _ => (aGo_s rfl).trans rfl, fun _ _ _ => (aGo_s rfl).trans rfl, fun _ _ _ => (aGo_s rfl).trans rfl, fun _ _ _ => (aGo_s rfl).trans rfl, fun _ _ _ => (aGo_s rfl).trans rfl, fun _ _ _ => (aGo_s rfl).trans rfl, fun _ _ _ => (aGo_s rfl).trans rfl, fun _ _ _ => (aGo_s rfl).trans rfl, fun _ _ _ => (aGo_s rfl).trans rfl, fun _ _ _ => (aGo_s rfl).trans rfl, fun _ _ _ => (aGo_s rfl).trans rfl, fun _ _ _ => (aGo_s rfl).trans rfl, fun _ _ _ => (aGo_s rfl).trans rfl, fun _ _ _ => (aGo_s rfl).trans rfl, fun _ _ _ => (aGo_s rfl).trans rfl, fun _ _ _ => (aGo_s rfl).trans rfl, fun _ _ _ => (aGo_s rfl).trans rfl, fun _ _ _ => (aGo_s rfl).trans rfl, fun _ _ _ => (aGo_s rfl).trans rfl, fun _ _ _ => (aGo_s rfl).trans rfl, fun _ _ _ => (aGo_s rfl).trans rfl, fun _ _ _ => (aGo_s rfl).trans rfl, fun _ _ _ => (aGo_s rfl).trans rfl, fun _ _ _ => (aGo_s rfl).trans rfl, fun _ _ _ => (aGo_s rfl).trans rfl, fun _ _ _ => (aGo_s rfl).trans rfl, fun _ _ _ => (aGo_s rfl).trans rfl, fun _ _ _ => (aGo_s rfl).trans rfl, fun _ _ _ => (aGo_s rfl).trans rfl, fun _ _ _ => (aGo_s rfl).trans rfl, fun _ _ _ => (aGo_s rfl).trans rfl, fun _ _ _ => (aGo_s rfl).trans rfl, fun _ _ _ => (aGo_s rfl).trans rfl, fun _ _ _ => (aGo_s rfl).trans rfl, fun _ _ _ => (aGo_s rfl).trans rfl, fun _ _ _ => (aGo_s rfl).trans rfl, fun _ _ _ => (aGo_s rfl).trans rfl, fun _ _ _ => (aGo_s rfl).trans rfl, fun _ _ _ => (aGo_s rfl).trans rfl, fun _ _ _ => (aGo_s rfl).trans rfl, fun _ _ _ => (aGo_s rfl).trans rfl, fun _ _ _ => (aGo_s rfl).trans rfl, fun _ _ _ => (aGo_s rfl).trans rfl, fun _ _ _ => (aGo_s rfl).trans rfl, fun _ _ _ => (aGo_s rfl).trans rfl, fun _ _ _ => (aGo_s rfl).trans rfl, fun _ _ _ => (aGo_s rfl).trans rfl, fun _ _ _ => (aGo_s rfl).trans rfl, fun _ _ _ => (aGo_s rfl).trans rfl, fun _ _ _ => (aGo_s rfl).trans rfl, fun _ _ _ => (aGo_s rfl).trans rfl, fun _ _ _ => (aGo_s rfl).trans rfl, fun _ _ _ => (aGo_s rfl).trans rfl, fun _ _ _ => (aGo_s rfl).trans rfl, fun _ _ _ => (aGo_s rfl).trans rfl, fun _ _ _ => (aGo_s rfl).trans rfl, fun _ _ _ => (aGo_s rfl).trans rfl, fun _ _ _ => (aGo_s rfl).trans rfl, fun _ _ _ => (aGo_s rfl).trans rfl, fun _ _ _ => (aGo_s rfl).trans rfl, fun _ _ _ => (aGo_s rfl).trans rfl, fun _ _ _ => (aGo_s rfl).trans rfl, fun _ _ _ => (aGo_s rfl).trans rfl, fun _ _ _ => (aGo_s rfl).trans rfl, fun _ _ _ => (aGo_s rfl).trans rfl, fun _ _ _ => (aGo_s rfl).trans rfl, fun _ _ _ => (aGo_s rfl).trans rfl, fun _ _ _ => (aGo_s rfl).trans rfl, fun _ _ _ => (aGo_s rfl).trans rfl, fun _ _ _ => (aGo_s rfl).trans rfl, fun _ _ _ => (aGo_s rfl).trans rfl, fun _ _ _ => (aGo_s rfl).trans rfl, fun _ _ _ => (aGo_s rfl).trans rfl, fun _ _ _ => (aGo_s rfl).trans rfl, fun _ _ _ => (aGo_s rfl).trans rfl, fun _ _ _ => (aGo_s rfl).trans rfl, fun _ _ _ => (aGo_s rfl).trans rfl, fun _ _ _ => (aGo_s rfl).trans rfl, fun _ _ _ => (aGo_s rfl).trans rfl, fun _ _ _ => (aGo_s rfl).trans rfl, fun _ _ _ => (aGo_s rfl).trans rfl, fun _ _ _ => (aGo_s rfl).trans rfl, fun _ _ _ => (aGo_s rfl).trans rfl, fun _ _ _ => (aGo_s rfl).trans rfl, fun _ _ _ => (aGo_s rfl).trans rfl, fun _ _ _ => (aGo_s rfl).trans rfl, fun _ _ _ => (aGo_s rfl).trans rfl, fun _ _ _ => (aGo_s rfl).trans rfl⟩
theorem s_188_19 {cl : Nat → List Value → aH → aRs} : ∀ ls st H, aGo cl none cd_188 0 19 ls st H = aILoad (fun st => aGo cl none cd_188 0 20 ls st H) ls 3 st := fun _ _ _ => (aGo_s rfl).trans rfl
theorem s_188_51 {cl : Nat → List Value → aH → aRs} : ∀ ls st H, aGo cl none cd_188 0 51 ls st H = aILoad (fun st => aGo cl none cd_188 0 53 ls st H) ls 4 st := fun _ _ _ => (aGo_s rfl).trans rfl
theorem s_188_112 {cl : Nat → List Value → aH → aRs} : ∀ ls st H, aGo cl none cd_188 0 112 ls st H = aILoad (fun st => aGo cl none cd_188 0 114 ls st H) ls 4 st := fun _ _ _ => (aGo_s rfl).trans rfl
theorem e_188 {d : Nat} {x0 : Nat} {x1 : Int32} {H : aH} : aCall aMt (d + 1) 188 [.ref x0, .int x1] H = aGo (aCall aMt d) none cd_188 0 0 [some (.ref x0), some (.int x1), none, none, none, none] [] H := (c_0 rfl ⟨rfl, Nat.le_of_ble_eq_true rfl, Nat.le_of_ble_eq_true rfl⟩).trans rfl
theorem s_189 {cl : Nat → List Value → aH → aRs} : (∀ ls st H, aGo cl none cd_189 0 0 ls st H = aRLoad (fun st => aGo cl none cd_189 0 1 ls st H) ls 0 st) ∧
  (∀ ls st H, aGo cl none cd_189 0 1 ls st H = aILoad (fun st => aGo cl none cd_189 0 2 ls st H) ls 1 st) ∧
  (∀ ls st H, aGo cl none cd_189 0 2 ls st H = aGo cl none cd_189 0 3 ls (.int 0 :: st) H) ∧
  (∀ ls st H, aGo cl none cd_189 0 3 ls st H = aCallV (fun st H => aGo cl none cd_189 0 6 ls st H) cl 157 2 8 H st) ∧
  (∀ ls st H, aGo cl none cd_189 0 6 ls st H = aIStore (fun ls st => aGo cl none cd_189 0 7 ls st H) ls 2 st) ∧
  (∀ ls st H, aGo cl none cd_189 0 7 ls st H = aILoad (fun st => aGo cl none cd_189 0 8 ls st H) ls 2 st) ∧
  (∀ ls st H, aGo cl none cd_189 0 8 ls st H = aGo cl none cd_189 0 9 ls (.int (-1) :: st) H) ∧
  (∀ ls st H, aGo cl none cd_189 0 9 ls st H = aIc (fun p st => aGo cl none cd_189 0 p ls st H) .eq 22 12 st) ∧
  (∀ ls st H, aGo cl none cd_189 0 12 ls st H = aRLoad (fun st => aGo cl none cd_189 0 13 ls st H) ls 0 st) ∧
  (∀ ls st H, aGo cl none cd_189 0 13 ls st H = aILoad (fun st => aGo cl none cd_189 0 14 ls st H) ls 2 st) ∧
  (∀ ls st H, aGo cl none cd_189 0 14 ls st H = aGo cl none cd_189 0 15 ls (.int 0 :: st) H) ∧
  (∀ ls st H, aGo cl none cd_189 0 15 ls st H = aCallV (fun st H => aGo cl none cd_189 0 18 ls st H) cl 126 2 8 H st) ∧
  (∀ ls st H, aGo cl none cd_189 0 18 ls st H = aILoad (fun st => aGo cl none cd_189 0 19 ls st H) ls 1 st) ∧
  (∀ ls st H, aGo cl none cd_189 0 19 ls st H = aIc (fun p st => aGo cl none cd_189 0 p ls st H) .ne 26 22 st) ∧
  (∀ ls st H, aGo cl none cd_189 0 22 ls st H = aGo cl none cd_189 0 23 ls (.int (-1) :: st) H) ∧
  (∀ ls st H, aGo cl none cd_189 0 23 ls st H = aGo cl none cd_189 0 32 ls st H) ∧
  (∀ ls st H, aGo cl none cd_189 0 26 ls st H = aRLoad (fun st => aGo cl none cd_189 0 27 ls st H) ls 0 st) ∧
  (∀ ls st H, aGo cl none cd_189 0 27 ls st H = aILoad (fun st => aGo cl none cd_189 0 28 ls st H) ls 2 st) ∧
  (∀ ls st H, aGo cl none cd_189 0 28 ls st H = aGo cl none cd_189 0 29 ls (.int 0 :: st) H) ∧
  (∀ ls st H, aGo cl none cd_189 0 29 ls st H = aCallV (fun st H => aGo cl none cd_189 0 32 ls st H) cl 126 2 8 H st) ∧
  (∀ ls st H, aGo cl none cd_189 0 32 ls st H = aIret 0 st H) :=
  ⟨fun _ _ _ => (aGo_s rfl).trans rfl, fun _ _ _ => (aGo_s rfl).trans rfl, fun _ _ _ => (aGo_s rfl).trans rfl, fun _ _ _ => (aGo_s rfl).trans rfl, fun _ _ _ => (aGo_s rfl).trans rfl, fun _ _ _ => (aGo_s rfl).trans rfl, fun _ _ _ => (aGo_s rfl).trans rfl, fun _ _ _ => (aGo_s rfl).trans rfl, fun _ _ _ => (aGo_s rfl).trans rfl, fun _ _ _ => (aGo_s rfl).trans rfl, fun _ _ _ => (aGo_s rfl).trans rfl, fun _ _ _ => (aGo_s rfl).trans rfl, fun _ _ _ => (aGo_s rfl).trans rfl, fun _ _ _ => (aGo_s rfl).trans rfl, fun _ _ _ => (aGo_s rfl).trans rfl, fun _ _ _ => (aGo_s rfl).trans rfl, fun _ _ _ => (aGo_s rfl).trans rfl, fun _ _ _ => (aGo_s rfl).trans rfl, fun _ _ _ => (aGo_s rfl).trans rfl, fun _ _ _ => (aGo_s rfl).trans rfl, fun _ _ _ => (aGo_s rfl).trans rfl⟩
theorem e_189 {d : Nat} {x0 : Nat} {x1 : Int32} {H : aH} : aCall aMt (d + 1) 189 [.ref x0, .int x1] H = aGo (aCall aMt d) none cd_189 0 0 [some (.ref x0), some (.int x1), none] [] H := (c_0 rfl ⟨rfl, Nat.le_of_ble_eq_true rfl, Nat.le_of_ble_eq_true rfl⟩).trans rfl
theorem s_190 {cl : Nat → List Value → aH → aRs} : (∀ ls st H, aGo cl none cd_190 0 0 ls st H = aRLoad (fun st => aGo cl none cd_190 0 1 ls st H) ls 0 st) ∧
  (∀ ls st H, aGo cl none cd_190 0 1 ls st H = aILoad (fun st => aGo cl none cd_190 0 2 ls st H) ls 1 st) ∧
  (∀ ls st H, aGo cl none cd_190 0 2 ls st H = aCallV (fun st H => aGo cl none cd_190 0 5 ls st H) cl 122 1 8 H st) ∧
  (∀ ls st H, aGo cl none cd_190 0 5 ls st H = aIf (fun p st => aGo cl none cd_190 0 p ls st H) .eq 17 8 st) ∧
  (∀ ls st H, aGo cl none cd_190 0 8 ls st H = aILoad (fun st => aGo cl none cd_190 0 9 ls st H) ls 2 st) ∧
  (∀ ls st H, aGo cl none cd_190 0 9 ls st H = aGo cl none cd_190 0 10 ls (.int 0 :: st) H) ∧
  (∀ ls st H, aGo cl none cd_190 0 10 ls st H = aGo cl none cd_190 0 11 ls (.int 1 :: st) H) ∧
  (∀ ls st H, aGo cl none cd_190 0 11 ls st H = aCallI (fun st H => aGo cl none cd_190 0 14 ls st H) cl 117 3 H st) ∧
  (∀ ls st H, aGo cl none cd_190 0 14 ls st H = aIf (fun p st => aGo cl none cd_190 0 p ls st H) .ne 23 17 st) ∧
  (∀ ls st H, aGo cl none cd_190 0 17 ls st H = aRLoad (fun st => aGo cl none cd_190 0 18 ls st H) ls 0 st) ∧
  (∀ ls st H, aGo cl none cd_190 0 18 ls st H = aGo cl none cd_190 0 19 ls (.int 1 :: st) H) ∧
  (∀ ls st H, aGo cl none cd_190 0 19 ls st H = aCallV (fun st H => aGo cl none cd_190 0 22 ls st H) cl 116 1 8 H st) ∧
  (∀ ls st H, aGo cl none cd_190 0 22 ls st H = aIret 0 st H) ∧
  (∀ ls st H, aGo cl none cd_190 0 23 ls st H = aGo cl none cd_190 0 24 ls (.int 0 :: st) H) ∧
  (∀ ls st H, aGo cl none cd_190 0 24 ls st H = aIStore (fun ls st => aGo cl none cd_190 0 25 ls st H) ls 3 st) ∧
  (∀ ls st H, aGo cl none cd_190 0 26 ls st H = aGo cl none cd_190 0 28 ls (.int 8 :: st) H) ∧
  (∀ ls st H, aGo cl none cd_190 0 28 ls st H = aIc (fun p st => aGo cl none cd_190 0 p ls st H) .ge 44 31 st) ∧
  (∀ ls st H, aGo cl none cd_190 0 31 ls st H = aRLoad (fun st => aGo cl none cd_190 0 32 ls st H) ls 0 st) ∧
  (∀ ls st H, aGo cl none cd_190 0 32 ls st H = aGet (fun st => aGo cl none cd_190 0 35 ls st H) 8 13 H st) ∧
  (∀ ls st H, aGo cl none cd_190 0 35 ls st H = aILoad (fun st => aGo cl none cd_190 0 36 ls st H) ls 3 st) ∧
  (∀ ls st H, aGo cl none cd_190 0 36 ls st H = aGo cl none cd_190 0 37 ls (.int (-1) :: st) H) ∧
  (∀ ls st H, aGo cl none cd_190 0 37 ls st H = aIast (fun st H => aGo cl none cd_190 0 38 ls st H) H st) ∧
  (∀ ls st H, aGo cl none cd_190 0 38 ls st H = aInc (fun ls => aGo cl none cd_190 0 41 ls st H) ls 3 1) ∧
  (∀ ls st H, aGo cl none cd_190 0 41 ls st H = aGo cl none cd_190 0 25 ls st H) ∧
  (∀ ls st H, aGo cl none cd_190 0 44 ls st H = aGo cl none cd_190 0 45 ls (.int 0 :: st) H) ∧
  (∀ ls st H, aGo cl none cd_190 0 45 ls st H = aIStore (fun ls st => aGo cl none cd_190 0 46 ls st H) ls 3 st) ∧
  (∀ ls st H, aGo cl none cd_190 0 46 ls st H = aILoad (fun st => aGo cl none cd_190 0 47 ls st H) ls 1 st) ∧
  (∀ ls st H, aGo cl none cd_190 0 47 ls st H = aIStore (fun ls st => aGo cl none cd_190 0 49 ls st H) ls 4 st) ∧
  (∀ ls st H, aGo cl none cd_190 0 51 ls st H = aGo cl none cd_190 0 52 ls (.int (-1) :: st) H) ∧
  (∀ ls st H, aGo cl none cd_190 0 52 ls st H = aIc (fun p st => aGo cl none cd_190 0 p ls st H) .eq 88 55 st) ∧
  (∀ ls st H, aGo cl none cd_190 0 55 ls st H = aRLoad (fun st => aGo cl none cd_190 0 56 ls st H) ls 0 st) ∧
  (∀ ls st H, aGo cl none cd_190 0 56 ls st H = aGet (fun st => aGo cl none cd_190 0 59 ls st H) 8 13 H st) ∧
  (∀ ls st H, aGo cl none cd_190 0 59 ls st H = aILoad (fun st => aGo cl none cd_190 0 61 ls st H) ls 4 st) ∧
  (∀ ls st H, aGo cl none cd_190 0 61 ls st H = aIald (fun st => aGo cl none cd_190 0 62 ls st H) none H st) ∧
  (∀ ls st H, aGo cl none cd_190 0 62 ls st H = aGo cl none cd_190 0 63 ls (.int (-1) :: st) H) ∧
  (∀ ls st H, aGo cl none cd_190 0 63 ls st H = aIc (fun p st => aGo cl none cd_190 0 p ls st H) .ne 88 66 st) ∧
  (∀ ls st H, aGo cl none cd_190 0 66 ls st H = aRLoad (fun st => aGo cl none cd_190 0 67 ls st H) ls 0 st) ∧
  (∀ ls st H, aGo cl none cd_190 0 67 ls st H = aGet (fun st => aGo cl none cd_190 0 70 ls st H) 8 13 H st) ∧
  (∀ ls st H, aGo cl none cd_190 0 70 ls st H = aILoad (fun st => aGo cl none cd_190 0 72 ls st H) ls 4 st) ∧
  (∀ ls st H, aGo cl none cd_190 0 72 ls st H = aILoad (fun st => aGo cl none cd_190 0 73 ls st H) ls 3 st) ∧
  (∀ ls st H, aGo cl none cd_190 0 73 ls st H = aIast (fun st H => aGo cl none cd_190 0 74 ls st H) H st) ∧
  (∀ ls st H, aGo cl none cd_190 0 74 ls st H = aInc (fun ls => aGo cl none cd_190 0 77 ls st H) ls 3 1) ∧
  (∀ ls st H, aGo cl none cd_190 0 77 ls st H = aRLoad (fun st => aGo cl none cd_190 0 78 ls st H) ls 0 st) ∧
  (∀ ls st H, aGo cl none cd_190 0 78 ls st H = aILoad (fun st => aGo cl none cd_190 0 80 ls st H) ls 4 st) ∧
  (∀ ls st H, aGo cl none cd_190 0 80 ls st H = aCallV (fun st H => aGo cl none cd_190 0 83 ls st H) cl 189 1 8 H st) ∧
  (∀ ls st H, aGo cl none cd_190 0 83 ls st H = aIStore (fun ls st => aGo cl none cd_190 0 85 ls st H) ls 4 st) ∧
  (∀ ls st H, aGo cl none cd_190 0 85 ls st H = aGo cl none cd_190 0 49 ls st H) ∧
  (∀ ls st H, aGo cl none cd_190 0 88 ls st H = aILoad (fun st => aGo cl none cd_190 0 90 ls st H) ls 4 st) ∧
  (∀ ls st H, aGo cl none cd_190 0 90 ls st H = aGo cl none cd_190 0 91 ls (.int (-1) :: st) H) ∧
  (∀ ls st H, aGo cl none cd_190 0 91 ls st H = aIc (fun p st => aGo cl none cd_190 0 p ls st H) .ne 106 94 st) ∧
  (∀ ls st H, aGo cl none cd_190 0 94 ls st H = aILoad (fun st => aGo cl none cd_190 0 95 ls st H) ls 2 st) ∧
  (∀ ls st H, aGo cl none cd_190 0 95 ls st H = aIf (fun p st => aGo cl none cd_190 0 p ls st H) .ne 104 98 st) ∧
  (∀ ls st H, aGo cl none cd_190 0 98 ls st H = aILoad (fun st => aGo cl none cd_190 0 99 ls st H) ls 3 st) ∧
  (∀ ls st H, aGo cl none cd_190 0 99 ls st H = aGo cl none cd_190 0 100 ls (.int 1 :: st) H) ∧
  (∀ ls st H, aGo cl none cd_190 0 100 ls st H = aBin (fun st => aGo cl none cd_190 0 101 ls st H) (fun x y => x - y) st) ∧
  (∀ ls st H, aGo cl none cd_190 0 101 ls st H = aGo cl none cd_190 0 105 ls st H) ∧
  (∀ ls st H, aGo cl none cd_190 0 104 ls st H = aGo cl none cd_190 0 105 ls (.int 0 :: st) H) ∧
  (∀ ls st H, aGo cl none cd_190 0 105 ls st H = aIret 0 st H) ∧
  (∀ ls st H, aGo cl none cd_190 0 106 ls st H = aILoad (fun st => aGo cl none cd_190 0 107 ls st H) ls 2 st) ∧
  (∀ ls st H, aGo cl none cd_190 0 107 ls st H = aIf (fun p st => aGo cl none cd_190 0 p ls st H) .ne 120 110 st) ∧
  (∀ ls st H, aGo cl none cd_190 0 110 ls st H = aRLoad (fun st => aGo cl none cd_190 0 111 ls st H) ls 0 st) ∧
  (∀ ls st H, aGo cl none cd_190 0 111 ls st H = aGet (fun st => aGo cl none cd_190 0 114 ls st H) 8 13 H st) ∧
  (∀ ls st H, aGo cl none cd_190 0 114 ls st H = aILoad (fun st => aGo cl none cd_190 0 116 ls st H) ls 4 st) ∧
  (∀ ls st H, aGo cl none cd_190 0 116 ls st H = aIald (fun st => aGo cl none cd_190 0 117 ls st H) none H st) ∧
  (∀ ls st H, aGo cl none cd_190 0 117 ls st H = aGo cl none cd_190 0 129 ls st H) ∧
  (∀ ls st H, aGo cl none cd_190 0 120 ls st H = aILoad (fun st => aGo cl none cd_190 0 121 ls st H) ls 3 st) ∧
  (∀ ls st H, aGo cl none cd_190 0 121 ls st H = aRLoad (fun st => aGo cl none cd_190 0 122 ls st H) ls 0 st) ∧
  (∀ ls st H, aGo cl none cd_190 0 122 ls st H = aGet (fun st => aGo cl none cd_190 0 125 ls st H) 8 13 H st) ∧
  (∀ ls st H, aGo cl none cd_190 0 125 ls st H = aILoad (fun st => aGo cl none cd_190 0 127 ls st H) ls 4 st) ∧
  (∀ ls st H, aGo cl none cd_190 0 127 ls st H = aIald (fun st => aGo cl none cd_190 0 128 ls st H) none H st) ∧
  (∀ ls st H, aGo cl none cd_190 0 128 ls st H = aBin (fun st => aGo cl none cd_190 0 129 ls st H) (fun x y => x - y) st) ∧
  (∀ ls st H, aGo cl none cd_190 0 129 ls st H = aIret 0 st H) :=
  ⟨fun _ _ _ => (aGo_s rfl).trans rfl, fun _ _ _ => (aGo_s rfl).trans rfl, fun _ _ _ => (aGo_s rfl).trans rfl, fun _ _ _ => (aGo_s rfl).trans rfl, fun _ _ _ => (aGo_s rfl).trans rfl, fun _ _ _ => (aGo_s rfl).trans rfl, fun _ _ _ => (aGo_s rfl).trans rfl, fun _ _ _ => (aGo_s rfl).trans rfl, fun _ _ _ => (aGo_s rfl).trans rfl, fun _ _ _ => (aGo_s rfl).trans rfl, fun _ _ _ => (aGo_s rfl).trans rfl, fun _ _ _ => (aGo_s rfl).trans rfl, fun _ _ _ => (aGo_s rfl).trans rfl, fun _ _ _ => (aGo_s rfl).trans rfl, fun _ _ _ => (aGo_s rfl).trans rfl, fun _ _ _ => (aGo_s rfl).trans rfl, fun _ _ _ => (aGo_s rfl).trans rfl, fun _ _ _ => (aGo_s rfl).trans rfl, fun _ _ _ => (aGo_s rfl).trans rfl, fun _ _ _ => (aGo_s rfl).trans rfl, fun _ _ _ => (aGo_s rfl).trans rfl, fun _ _ _ => (aGo_s rfl).trans rfl, fun _ _ _ => (aGo_s rfl).trans rfl, fun _ _ _ => (aGo_s rfl).trans rfl, fun _ _ _ => (aGo_s rfl).trans rfl, fun _ _ _ => (aGo_s rfl).trans rfl, fun _ _ _ => (aGo_s rfl).trans rfl, fun _ _ _ => (aGo_s rfl).trans rfl, fun _ _ _ => (aGo_s rfl).trans rfl, fun _ _ _ => (aGo_s rfl).trans rfl, fun _ _ _ => (aGo_s rfl).trans rfl, fun _ _ _ => (aGo_s rfl).trans rfl, fun _ _ _ => (aGo_s rfl).trans rfl, fun _ _ _ => (aGo_s rfl).trans rfl, fun _ _ _ => (aGo_s rfl).trans rfl, fun _ _ _ => (aGo_s rfl).trans rfl, fun _ _ _ => (aGo_s rfl).trans rfl, fun _ _ _ => (aGo_s rfl).trans rfl, fun _ _ _ => (aGo_s rfl).trans rfl, fun _ _ _ => (aGo_s rfl).trans rfl, fun _ _ _ => (aGo_s rfl).trans rfl, fun _ _ _ => (aGo_s rfl).trans rfl, fun _ _ _ => (aGo_s rfl).trans rfl, fun _ _ _ => (aGo_s rfl).trans rfl, fun _ _ _ => (aGo_s rfl).trans rfl, fun _ _ _ => (aGo_s rfl).trans rfl, fun _ _ _ => (aGo_s rfl).trans rfl, fun _ _ _ => (aGo_s rfl).trans rfl, fun _ _ _ => (aGo_s rfl).trans rfl, fun _ _ _ => (aGo_s rfl).trans rfl, fun _ _ _ => (aGo_s rfl).trans rfl, fun _ _ _ => (aGo_s rfl).trans rfl, fun _ _ _ => (aGo_s rfl).trans rfl, fun _ _ _ => (aGo_s rfl).trans rfl, fun _ _ _ => (aGo_s rfl).trans rfl, fun _ _ _ => (aGo_s rfl).trans rfl, fun _ _ _ => (aGo_s rfl).trans rfl, fun _ _ _ => (aGo_s rfl).trans rfl, fun _ _ _ => (aGo_s rfl).trans rfl, fun _ _ _ => (aGo_s rfl).trans rfl, fun _ _ _ => (aGo_s rfl).trans rfl, fun _ _ _ => (aGo_s rfl).trans rfl, fun _ _ _ => (aGo_s rfl).trans rfl, fun _ _ _ => (aGo_s rfl).trans rfl, fun _ _ _ => (aGo_s rfl).trans rfl, fun _ _ _ => (aGo_s rfl).trans rfl, fun _ _ _ => (aGo_s rfl).trans rfl, fun _ _ _ => (aGo_s rfl).trans rfl, fun _ _ _ => (aGo_s rfl).trans rfl, fun _ _ _ => (aGo_s rfl).trans rfl, fun _ _ _ => (aGo_s rfl).trans rfl, fun _ _ _ => (aGo_s rfl).trans rfl⟩
theorem s_190_25 {cl : Nat → List Value → aH → aRs} : ∀ ls st H, aGo cl none cd_190 0 25 ls st H = aILoad (fun st => aGo cl none cd_190 0 26 ls st H) ls 3 st := fun _ _ _ => (aGo_s rfl).trans rfl
theorem s_190_49 {cl : Nat → List Value → aH → aRs} : ∀ ls st H, aGo cl none cd_190 0 49 ls st H = aILoad (fun st => aGo cl none cd_190 0 51 ls st H) ls 4 st := fun _ _ _ => (aGo_s rfl).trans rfl
theorem e_190 {d : Nat} {x0 : Nat} {x1 : Int32} {x2 : Int32} {H : aH} : aCall aMt (d + 1) 190 [.ref x0, .int x1, .int x2] H = aGo (aCall aMt d) none cd_190 0 0 [some (.ref x0), some (.int x1), some (.int x2), none, none] [] H := (c_0 rfl ⟨rfl, Nat.le_of_ble_eq_true rfl, Nat.le_of_ble_eq_true rfl⟩).trans rfl
theorem s_191 {cl : Nat → List Value → aH → aRs} : (∀ ls st H, aGo cl none cd_191 0 0 ls st H = aILoad (fun st => aGo cl none cd_191 0 1 ls st H) ls 0 st) ∧
  (∀ ls st H, aGo cl none cd_191 0 1 ls st H = aIStore (fun ls st => aGo cl none cd_191 0 2 ls st H) ls 2 st) ∧
  (∀ ls st H, aGo cl none cd_191 0 2 ls st H = aILoad (fun st => aGo cl none cd_191 0 3 ls st H) ls 1 st) ∧
  (∀ ls st H, aGo cl none cd_191 0 3 ls st H = aIStore (fun ls st => aGo cl none cd_191 0 4 ls st H) ls 3 st) ∧
  (∀ ls st H, aGo cl none cd_191 0 5 ls st H = aIf (fun p st => aGo cl none cd_191 0 p ls st H) .eq 21 8 st) ∧
  (∀ ls st H, aGo cl none cd_191 0 8 ls st H = aILoad (fun st => aGo cl none cd_191 0 9 ls st H) ls 2 st) ∧
  (∀ ls st H, aGo cl none cd_191 0 9 ls st H = aILoad (fun st => aGo cl none cd_191 0 10 ls st H) ls 3 st) ∧
  (∀ ls st H, aGo cl none cd_191 0 10 ls st H = aRem (fun st => aGo cl none cd_191 0 11 ls st H) st) ∧
  (∀ ls st H, aGo cl none cd_191 0 11 ls st H = aIStore (fun ls st => aGo cl none cd_191 0 13 ls st H) ls 4 st) ∧
  (∀ ls st H, aGo cl none cd_191 0 13 ls st H = aILoad (fun st => aGo cl none cd_191 0 14 ls st H) ls 3 st) ∧
  (∀ ls st H, aGo cl none cd_191 0 14 ls st H = aIStore (fun ls st => aGo cl none cd_191 0 15 ls st H) ls 2 st) ∧
  (∀ ls st H, aGo cl none cd_191 0 15 ls st H = aILoad (fun st => aGo cl none cd_191 0 17 ls st H) ls 4 st) ∧
  (∀ ls st H, aGo cl none cd_191 0 17 ls st H = aIStore (fun ls st => aGo cl none cd_191 0 18 ls st H) ls 3 st) ∧
  (∀ ls st H, aGo cl none cd_191 0 18 ls st H = aGo cl none cd_191 0 4 ls st H) ∧
  (∀ ls st H, aGo cl none cd_191 0 21 ls st H = aILoad (fun st => aGo cl none cd_191 0 22 ls st H) ls 2 st) ∧
  (∀ ls st H, aGo cl none cd_191 0 22 ls st H = aIret 0 st H) :=
  ⟨fun _ _ _ => (aGo_s rfl).trans rfl, fun _ _ _ => (aGo_s rfl).trans rfl, fun _ _ _ => (aGo_s rfl).trans rfl, fun _ _ _ => (aGo_s rfl).trans rfl, fun _ _ _ => (aGo_s rfl).trans rfl, fun _ _ _ => (aGo_s rfl).trans rfl, fun _ _ _ => (aGo_s rfl).trans rfl, fun _ _ _ => (aGo_s rfl).trans rfl, fun _ _ _ => (aGo_s rfl).trans rfl, fun _ _ _ => (aGo_s rfl).trans rfl, fun _ _ _ => (aGo_s rfl).trans rfl, fun _ _ _ => (aGo_s rfl).trans rfl, fun _ _ _ => (aGo_s rfl).trans rfl, fun _ _ _ => (aGo_s rfl).trans rfl, fun _ _ _ => (aGo_s rfl).trans rfl, fun _ _ _ => (aGo_s rfl).trans rfl⟩
theorem s_191_4 {cl : Nat → List Value → aH → aRs} : ∀ ls st H, aGo cl none cd_191 0 4 ls st H = aILoad (fun st => aGo cl none cd_191 0 5 ls st H) ls 3 st := fun _ _ _ => (aGo_s rfl).trans rfl
theorem e_191 {d : Nat} {x0 : Int32} {x1 : Int32} {H : aH} : aCall aMt (d + 1) 191 [.int x0, .int x1] H = aGo (aCall aMt d) none cd_191 0 0 [some (.int x0), some (.int x1), none, none, none] [] H := (c_0 rfl ⟨rfl, Nat.le_of_ble_eq_true rfl, Nat.le_of_ble_eq_true rfl⟩).trans rfl
theorem s_192 {cl : Nat → List Value → aH → aRs} : (∀ ls st H, aGo cl none cd_192 0 0 ls st H = aRLoad (fun st => aGo cl none cd_192 0 1 ls st H) ls 0 st) ∧
  (∀ ls st H, aGo cl none cd_192 0 1 ls st H = aILoad (fun st => aGo cl none cd_192 0 2 ls st H) ls 1 st) ∧
  (∀ ls st H, aGo cl none cd_192 0 2 ls st H = aCallV (fun st H => aGo cl none cd_192 0 5 ls st H) cl 123 1 8 H st) ∧
  (∀ ls st H, aGo cl none cd_192 0 5 ls st H = aIf (fun p st => aGo cl none cd_192 0 p ls st H) .eq 17 8 st) ∧
  (∀ ls st H, aGo cl none cd_192 0 8 ls st H = aILoad (fun st => aGo cl none cd_192 0 9 ls st H) ls 2 st) ∧
  (∀ ls st H, aGo cl none cd_192 0 9 ls st H = aGo cl none cd_192 0 10 ls (.int 0 :: st) H) ∧
  (∀ ls st H, aGo cl none cd_192 0 10 ls st H = aGo cl none cd_192 0 11 ls (.int 1 :: st) H) ∧
  (∀ ls st H, aGo cl none cd_192 0 11 ls st H = aCallI (fun st H => aGo cl none cd_192 0 14 ls st H) cl 117 3 H st) ∧
  (∀ ls st H, aGo cl none cd_192 0 14 ls st H = aIf (fun p st => aGo cl none cd_192 0 p ls st H) .ne 23 17 st) ∧
  (∀ ls st H, aGo cl none cd_192 0 17 ls st H = aRLoad (fun st => aGo cl none cd_192 0 18 ls st H) ls 0 st) ∧
  (∀ ls st H, aGo cl none cd_192 0 18 ls st H = aGo cl none cd_192 0 19 ls (.int 1 :: st) H) ∧
  (∀ ls st H, aGo cl none cd_192 0 19 ls st H = aCallV (fun st H => aGo cl none cd_192 0 22 ls st H) cl 116 1 8 H st) ∧
  (∀ ls st H, aGo cl none cd_192 0 22 ls st H = aIret 0 st H) ∧
  (∀ ls st H, aGo cl none cd_192 0 23 ls st H = aGo cl none cd_192 0 24 ls (.int 0 :: st) H) ∧
  (∀ ls st H, aGo cl none cd_192 0 24 ls st H = aIStore (fun ls st => aGo cl none cd_192 0 25 ls st H) ls 3 st) ∧
  (∀ ls st H, aGo cl none cd_192 0 25 ls st H = aGo cl none cd_192 0 26 ls (.int 0 :: st) H) ∧
  (∀ ls st H, aGo cl none cd_192 0 26 ls st H = aIStore (fun ls st => aGo cl none cd_192 0 28 ls st H) ls 4 st) ∧
  (∀ ls st H, aGo cl none cd_192 0 30 ls st H = aRLoad (fun st => aGo cl none cd_192 0 31 ls st H) ls 0 st) ∧
  (∀ ls st H, aGo cl none cd_192 0 31 ls st H = aGet (fun st => aGo cl none cd_192 0 34 ls st H) 8 0 H st) ∧
  (∀ ls st H, aGo cl none cd_192 0 34 ls st H = aGo cl none cd_192 0 36 ls (.int 7 :: st) H) ∧
  (∀ ls st H, aGo cl none cd_192 0 36 ls st H = aIald (fun st => aGo cl none cd_192 0 37 ls st H) none H st) ∧
  (∀ ls st H, aGo cl none cd_192 0 37 ls st H = aIc (fun p st => aGo cl none cd_192 0 p ls st H) .ge 84 40 st) ∧
  (∀ ls st H, aGo cl none cd_192 0 40 ls st H = aILoad (fun st => aGo cl none cd_192 0 41 ls st H) ls 3 st) ∧
  (∀ ls st H, aGo cl none cd_192 0 41 ls st H = aRLoad (fun st => aGo cl none cd_192 0 42 ls st H) ls 0 st) ∧
  (∀ ls st H, aGo cl none cd_192 0 42 ls st H = aILoad (fun st => aGo cl none cd_192 0 44 ls st H) ls 4 st) ∧
  (∀ ls st H, aGo cl none cd_192 0 44 ls st H = aGo cl none cd_192 0 45 ls (.int 0 :: st) H) ∧
  (∀ ls st H, aGo cl none cd_192 0 45 ls st H = aCallV (fun st H => aGo cl none cd_192 0 48 ls st H) cl 157 2 8 H st) ∧
  (∀ ls st H, aGo cl none cd_192 0 48 ls st H = aILoad (fun st => aGo cl none cd_192 0 49 ls st H) ls 1 st) ∧
  (∀ ls st H, aGo cl none cd_192 0 49 ls st H = aIc (fun p st => aGo cl none cd_192 0 p ls st H) .ne 56 52 st) ∧
  (∀ ls st H, aGo cl none cd_192 0 52 ls st H = aGo cl none cd_192 0 53 ls (.int 1 :: st) H) ∧
  (∀ ls st H, aGo cl none cd_192 0 53 ls st H = aGo cl none cd_192 0 57 ls st H) ∧
  (∀ ls st H, aGo cl none cd_192 0 56 ls st H = aGo cl none cd_192 0 57 ls (.int 0 :: st) H) ∧
  (∀ ls st H, aGo cl none cd_192 0 57 ls st H = aBin (fun st => aGo cl none cd_192 0 58 ls st H) (fun x y => x + y) st) ∧
  (∀ ls st H, aGo cl none cd_192 0 58 ls st H = aIStore (fun ls st => aGo cl none cd_192 0 59 ls st H) ls 3 st) ∧
  (∀ ls st H, aGo cl none cd_192 0 59 ls st H = aILoad (fun st => aGo cl none cd_192 0 60 ls st H) ls 3 st) ∧
  (∀ ls st H, aGo cl none cd_192 0 60 ls st H = aRLoad (fun st => aGo cl none cd_192 0 61 ls st H) ls 0 st) ∧
  (∀ ls st H, aGo cl none cd_192 0 61 ls st H = aILoad (fun st => aGo cl none cd_192 0 63 ls st H) ls 4 st) ∧
  (∀ ls st H, aGo cl none cd_192 0 63 ls st H = aGo cl none cd_192 0 64 ls (.int 1 :: st) H) ∧
  (∀ ls st H, aGo cl none cd_192 0 64 ls st H = aCallV (fun st H => aGo cl none cd_192 0 67 ls st H) cl 157 2 8 H st) ∧
  (∀ ls st H, aGo cl none cd_192 0 67 ls st H = aILoad (fun st => aGo cl none cd_192 0 68 ls st H) ls 1 st) ∧
  (∀ ls st H, aGo cl none cd_192 0 68 ls st H = aIc (fun p st => aGo cl none cd_192 0 p ls st H) .ne 75 71 st) ∧
  (∀ ls st H, aGo cl none cd_192 0 71 ls st H = aGo cl none cd_192 0 72 ls (.int 1 :: st) H) ∧
  (∀ ls st H, aGo cl none cd_192 0 72 ls st H = aGo cl none cd_192 0 76 ls st H) ∧
  (∀ ls st H, aGo cl none cd_192 0 75 ls st H = aGo cl none cd_192 0 76 ls (.int 0 :: st) H) ∧
  (∀ ls st H, aGo cl none cd_192 0 76 ls st H = aBin (fun st => aGo cl none cd_192 0 77 ls st H) (fun x y => x + y) st) ∧
  (∀ ls st H, aGo cl none cd_192 0 77 ls st H = aIStore (fun ls st => aGo cl none cd_192 0 78 ls st H) ls 3 st) ∧
  (∀ ls st H, aGo cl none cd_192 0 78 ls st H = aInc (fun ls => aGo cl none cd_192 0 81 ls st H) ls 4 1) ∧
  (∀ ls st H, aGo cl none cd_192 0 81 ls st H = aGo cl none cd_192 0 28 ls st H) ∧
  (∀ ls st H, aGo cl none cd_192 0 84 ls st H = aGo cl none cd_192 0 85 ls (.int 2 :: st) H) ∧
  (∀ ls st H, aGo cl none cd_192 0 85 ls st H = aRLoad (fun st => aGo cl none cd_192 0 86 ls st H) ls 0 st) ∧
  (∀ ls st H, aGo cl none cd_192 0 86 ls st H = aGet (fun st => aGo cl none cd_192 0 89 ls st H) 8 0 H st) ∧
  (∀ ls st H, aGo cl none cd_192 0 89 ls st H = aGo cl none cd_192 0 91 ls (.int 7 :: st) H) ∧
  (∀ ls st H, aGo cl none cd_192 0 91 ls st H = aIald (fun st => aGo cl none cd_192 0 92 ls st H) none H st) ∧
  (∀ ls st H, aGo cl none cd_192 0 92 ls st H = aBin (fun st => aGo cl none cd_192 0 93 ls st H) (fun x y => x * y) st) ∧
  (∀ ls st H, aGo cl none cd_192 0 93 ls st H = aIStore (fun ls st => aGo cl none cd_192 0 95 ls st H) ls 4 st) ∧
  (∀ ls st H, aGo cl none cd_192 0 95 ls st H = aILoad (fun st => aGo cl none cd_192 0 96 ls st H) ls 3 st) ∧
  (∀ ls st H, aGo cl none cd_192 0 96 ls st H = aILoad (fun st => aGo cl none cd_192 0 98 ls st H) ls 4 st) ∧
  (∀ ls st H, aGo cl none cd_192 0 98 ls st H = aCallI (fun st H => aGo cl none cd_192 0 101 ls st H) cl 191 2 H st) ∧
  (∀ ls st H, aGo cl none cd_192 0 101 ls st H = aIStore (fun ls st => aGo cl none cd_192 0 103 ls st H) ls 5 st) ∧
  (∀ ls st H, aGo cl none cd_192 0 103 ls st H = aILoad (fun st => aGo cl none cd_192 0 104 ls st H) ls 2 st) ∧
  (∀ ls st H, aGo cl none cd_192 0 104 ls st H = aIf (fun p st => aGo cl none cd_192 0 p ls st H) .ne 114 107 st) ∧
  (∀ ls st H, aGo cl none cd_192 0 107 ls st H = aILoad (fun st => aGo cl none cd_192 0 108 ls st H) ls 3 st) ∧
  (∀ ls st H, aGo cl none cd_192 0 108 ls st H = aILoad (fun st => aGo cl none cd_192 0 110 ls st H) ls 5 st) ∧
  (∀ ls st H, aGo cl none cd_192 0 110 ls st H = aDiv (fun st => aGo cl none cd_192 0 111 ls st H) st) ∧
  (∀ ls st H, aGo cl none cd_192 0 111 ls st H = aGo cl none cd_192 0 119 ls st H) ∧
  (∀ ls st H, aGo cl none cd_192 0 114 ls st H = aILoad (fun st => aGo cl none cd_192 0 116 ls st H) ls 4 st) ∧
  (∀ ls st H, aGo cl none cd_192 0 116 ls st H = aILoad (fun st => aGo cl none cd_192 0 118 ls st H) ls 5 st) ∧
  (∀ ls st H, aGo cl none cd_192 0 118 ls st H = aDiv (fun st => aGo cl none cd_192 0 119 ls st H) st) ∧
  (∀ ls st H, aGo cl none cd_192 0 119 ls st H = aIret 0 st H) :=
  ⟨fun _ _ _ => (aGo_s rfl).trans rfl, fun _ _ _ => (aGo_s rfl).trans rfl, fun _ _ _ => (aGo_s rfl).trans rfl, fun _ _ _ => (aGo_s rfl).trans rfl, fun _ _ _ => (aGo_s rfl).trans rfl, fun _ _ _ => (aGo_s rfl).trans rfl, fun _ _ _ => (aGo_s rfl).trans rfl, fun _ _ _ => (aGo_s rfl).trans rfl, fun _ _ _ => (aGo_s rfl).trans rfl, fun _ _ _ => (aGo_s rfl).trans rfl, fun _ _ _ => (aGo_s rfl).trans rfl, fun _ _ _ => (aGo_s rfl).trans rfl, fun _ _ _ => (aGo_s rfl).trans rfl, fun _ _ _ => (aGo_s rfl).trans rfl, fun _ _ _ => (aGo_s rfl).trans rfl, fun _ _ _ => (aGo_s rfl).trans rfl, fun _ _ _ => (aGo_s rfl).trans rfl, fun _ _ _ => (aGo_s rfl).trans rfl, fun _ _ _ => (aGo_s rfl).trans rfl, fun _ _ _ => (aGo_s rfl).trans rfl, fun _ _ _ => (aGo_s rfl).trans rfl, fun _ _ _ => (aGo_s rfl).trans rfl, fun _ _ _ => (aGo_s rfl).trans rfl, fun _ _ _ => (aGo_s rfl).trans rfl, fun _ _ _ => (aGo_s rfl).trans rfl, fun _ _ _ => (aGo_s rfl).trans rfl, fun _ _ _ => (aGo_s rfl).trans rfl, fun _ _ _ => (aGo_s rfl).trans rfl, fun _ _ _ => (aGo_s rfl).trans rfl, fun _ _ _ => (aGo_s rfl).trans rfl, fun _ _ _ => (aGo_s rfl).trans rfl, fun _ _ _ => (aGo_s rfl).trans rfl, fun _ _ _ => (aGo_s rfl).trans rfl, fun _ _ _ => (aGo_s rfl).trans rfl, fun _ _ _ => (aGo_s rfl).trans rfl, fun _ _ _ => (aGo_s rfl).trans rfl, fun _ _ _ => (aGo_s rfl).trans rfl, fun _ _ _ => (aGo_s rfl).trans rfl, fun _ _ _ => (aGo_s rfl).trans rfl, fun _ _ _ => (aGo_s rfl).trans rfl, fun _ _ _ => (aGo_s rfl).trans rfl, fun _ _ _ => (aGo_s rfl).trans rfl, fun _ _ _ => (aGo_s rfl).trans rfl, fun _ _ _ => (aGo_s rfl).trans rfl, fun _ _ _ => (aGo_s rfl).trans rfl, fun _ _ _ => (aGo_s rfl).trans rfl, fun _ _ _ => (aGo_s rfl).trans rfl, fun _ _ _ => (aGo_s rfl).trans rfl, fun _ _ _ => (aGo_s rfl).trans rfl, fun _ _ _ => (aGo_s rfl).trans rfl, fun _ _ _ => (aGo_s rfl).trans rfl, fun _ _ _ => (aGo_s rfl).trans rfl, fun _ _ _ => (aGo_s rfl).trans rfl, fun _ _ _ => (aGo_s rfl).trans rfl, fun _ _ _ => (aGo_s rfl).trans rfl, fun _ _ _ => (aGo_s rfl).trans rfl, fun _ _ _ => (aGo_s rfl).trans rfl, fun _ _ _ => (aGo_s rfl).trans rfl, fun _ _ _ => (aGo_s rfl).trans rfl, fun _ _ _ => (aGo_s rfl).trans rfl, fun _ _ _ => (aGo_s rfl).trans rfl, fun _ _ _ => (aGo_s rfl).trans rfl, fun _ _ _ => (aGo_s rfl).trans rfl, fun _ _ _ => (aGo_s rfl).trans rfl, fun _ _ _ => (aGo_s rfl).trans rfl, fun _ _ _ => (aGo_s rfl).trans rfl, fun _ _ _ => (aGo_s rfl).trans rfl, fun _ _ _ => (aGo_s rfl).trans rfl, fun _ _ _ => (aGo_s rfl).trans rfl⟩
theorem s_192_28 {cl : Nat → List Value → aH → aRs} : ∀ ls st H, aGo cl none cd_192 0 28 ls st H = aILoad (fun st => aGo cl none cd_192 0 30 ls st H) ls 4 st := fun _ _ _ => (aGo_s rfl).trans rfl
theorem e_192 {d : Nat} {x0 : Nat} {x1 : Int32} {x2 : Int32} {H : aH} : aCall aMt (d + 1) 192 [.ref x0, .int x1, .int x2] H = aGo (aCall aMt d) none cd_192 0 0 [some (.ref x0), some (.int x1), some (.int x2), none, none, none] [] H := (c_0 rfl ⟨rfl, Nat.le_of_ble_eq_true rfl, Nat.le_of_ble_eq_true rfl⟩).trans rfl
theorem s_193 {cl : Nat → List Value → aH → aRs} : (∀ ls st H, aGo cl none cd_193 0 0 ls st H = aRLoad (fun st => aGo cl none cd_193 0 1 ls st H) ls 0 st) ∧
  (∀ ls st H, aGo cl none cd_193 0 1 ls st H = aILoad (fun st => aGo cl none cd_193 0 2 ls st H) ls 1 st) ∧
  (∀ ls st H, aGo cl none cd_193 0 2 ls st H = aCallV (fun st H => aGo cl none cd_193 0 5 ls st H) cl 210 1 8 H st) ∧
  (∀ ls st H, aGo cl none cd_193 0 5 ls st H = aIStore (fun ls st => aGo cl none cd_193 0 6 ls st H) ls 2 st) ∧
  (∀ ls st H, aGo cl none cd_193 0 6 ls st H = aILoad (fun st => aGo cl none cd_193 0 7 ls st H) ls 2 st) ∧
  (∀ ls st H, aGo cl none cd_193 0 7 ls st H = aIf (fun p st => aGo cl none cd_193 0 p ls st H) .eq 16 10 st) ∧
  (∀ ls st H, aGo cl none cd_193 0 10 ls st H = aRLoad (fun st => aGo cl none cd_193 0 11 ls st H) ls 0 st) ∧
  (∀ ls st H, aGo cl none cd_193 0 11 ls st H = aILoad (fun st => aGo cl none cd_193 0 12 ls st H) ls 2 st) ∧
  (∀ ls st H, aGo cl none cd_193 0 12 ls st H = aCallV (fun st H => aGo cl none cd_193 0 15 ls st H) cl 116 1 8 H st) ∧
  (∀ ls st H, aGo cl none cd_193 0 15 ls st H = aIret 0 st H) ∧
  (∀ ls st H, aGo cl none cd_193 0 16 ls st H = aGo cl none cd_193 0 17 ls (.int 0 :: st) H) ∧
  (∀ ls st H, aGo cl none cd_193 0 17 ls st H = aIStore (fun ls st => aGo cl none cd_193 0 18 ls st H) ls 3 st) ∧
  (∀ ls st H, aGo cl none cd_193 0 18 ls st H = aRLoad (fun st => aGo cl none cd_193 0 19 ls st H) ls 0 st) ∧
  (∀ ls st H, aGo cl none cd_193 0 19 ls st H = aCallV (fun st H => aGo cl none cd_193 0 22 ls st H) cl 120 0 8 H st) ∧
  (∀ ls st H, aGo cl none cd_193 0 22 ls st H = aGo cl none cd_193 0 23 ls (.int 0 :: st) H) ∧
  (∀ ls st H, aGo cl none cd_193 0 23 ls st H = aIStore (fun ls st => aGo cl none cd_193 0 25 ls st H) ls 4 st) ∧
  (∀ ls st H, aGo cl none cd_193 0 27 ls st H = aRLoad (fun st => aGo cl none cd_193 0 28 ls st H) ls 0 st) ∧
  (∀ ls st H, aGo cl none cd_193 0 28 ls st H = aGet (fun st => aGo cl none cd_193 0 31 ls st H) 8 0 H st) ∧
  (∀ ls st H, aGo cl none cd_193 0 31 ls st H = aGo cl none cd_193 0 33 ls (.int 7 :: st) H) ∧
  (∀ ls st H, aGo cl none cd_193 0 33 ls st H = aIald (fun st => aGo cl none cd_193 0 34 ls st H) none H st) ∧
  (∀ ls st H, aGo cl none cd_193 0 34 ls st H = aIc (fun p st => aGo cl none cd_193 0 p ls st H) .ge 130 37 st) ∧
  (∀ ls st H, aGo cl none cd_193 0 37 ls st H = aGo cl none cd_193 0 38 ls (.int 1 :: st) H) ∧
  (∀ ls st H, aGo cl none cd_193 0 38 ls st H = aIStore (fun ls st => aGo cl none cd_193 0 40 ls st H) ls 5 st) ∧
  (∀ ls st H, aGo cl none cd_193 0 40 ls st H = aGo cl none cd_193 0 41 ls (.int 0 :: st) H) ∧
  (∀ ls st H, aGo cl none cd_193 0 41 ls st H = aIStore (fun ls st => aGo cl none cd_193 0 43 ls st H) ls 6 st) ∧
  (∀ ls st H, aGo cl none cd_193 0 45 ls st H = aRLoad (fun st => aGo cl none cd_193 0 46 ls st H) ls 0 st) ∧
  (∀ ls st H, aGo cl none cd_193 0 46 ls st H = aGet (fun st => aGo cl none cd_193 0 49 ls st H) 8 19 H st) ∧
  (∀ ls st H, aGo cl none cd_193 0 49 ls st H = aILoad (fun st => aGo cl none cd_193 0 50 ls st H) ls 1 st) ∧
  (∀ ls st H, aGo cl none cd_193 0 50 ls st H = aIald (fun st => aGo cl none cd_193 0 51 ls st H) none H st) ∧
  (∀ ls st H, aGo cl none cd_193 0 51 ls st H = aIc (fun p st => aGo cl none cd_193 0 p ls st H) .ge 104 54 st) ∧
  (∀ ls st H, aGo cl none cd_193 0 54 ls st H = aILoad (fun st => aGo cl none cd_193 0 56 ls st H) ls 5 st) ∧
  (∀ ls st H, aGo cl none cd_193 0 56 ls st H = aIf (fun p st => aGo cl none cd_193 0 p ls st H) .eq 104 59 st) ∧
  (∀ ls st H, aGo cl none cd_193 0 59 ls st H = aRLoad (fun st => aGo cl none cd_193 0 60 ls st H) ls 0 st) ∧
  (∀ ls st H, aGo cl none cd_193 0 60 ls st H = aILoad (fun st => aGo cl none cd_193 0 62 ls st H) ls 4 st) ∧
  (∀ ls st H, aGo cl none cd_193 0 62 ls st H = aGo cl none cd_193 0 63 ls (.int 0 :: st) H) ∧
  (∀ ls st H, aGo cl none cd_193 0 63 ls st H = aCallV (fun st H => aGo cl none cd_193 0 66 ls st H) cl 159 2 8 H st) ∧
  (∀ ls st H, aGo cl none cd_193 0 66 ls st H = aIStore (fun ls st => aGo cl none cd_193 0 68 ls st H) ls 7 st) ∧
  (∀ ls st H, aGo cl none cd_193 0 68 ls st H = aILoad (fun st => aGo cl none cd_193 0 70 ls st H) ls 7 st) ∧
  (∀ ls st H, aGo cl none cd_193 0 70 ls st H = aGo cl none cd_193 0 71 ls (.int (-1) :: st) H) ∧
  (∀ ls st H, aGo cl none cd_193 0 71 ls st H = aIc (fun p st => aGo cl none cd_193 0 p ls st H) .eq 95 74 st) ∧
  (∀ ls st H, aGo cl none cd_193 0 74 ls st H = aILoad (fun st => aGo cl none cd_193 0 76 ls st H) ls 7 st) ∧
  (∀ ls st H, aGo cl none cd_193 0 76 ls st H = aRLoad (fun st => aGo cl none cd_193 0 77 ls st H) ls 0 st) ∧
  (∀ ls st H, aGo cl none cd_193 0 77 ls st H = aGet (fun st => aGo cl none cd_193 0 80 ls st H) 8 20 H st) ∧
  (∀ ls st H, aGo cl none cd_193 0 80 ls st H = aGo cl none cd_193 0 82 ls (.int 24 :: st) H) ∧
  (∀ ls st H, aGo cl none cd_193 0 82 ls st H = aILoad (fun st => aGo cl none cd_193 0 83 ls st H) ls 1 st) ∧
  (∀ ls st H, aGo cl none cd_193 0 83 ls st H = aBin (fun st => aGo cl none cd_193 0 84 ls st H) (fun x y => x * y) st) ∧
  (∀ ls st H, aGo cl none cd_193 0 84 ls st H = aILoad (fun st => aGo cl none cd_193 0 86 ls st H) ls 6 st) ∧
  (∀ ls st H, aGo cl none cd_193 0 86 ls st H = aBin (fun st => aGo cl none cd_193 0 87 ls st H) (fun x y => x + y) st) ∧
  (∀ ls st H, aGo cl none cd_193 0 87 ls st H = aIald (fun st => aGo cl none cd_193 0 88 ls st H) none H st) ∧
  (∀ ls st H, aGo cl none cd_193 0 88 ls st H = aIc (fun p st => aGo cl none cd_193 0 p ls st H) .ne 95 91 st) ∧
  (∀ ls st H, aGo cl none cd_193 0 91 ls st H = aGo cl none cd_193 0 92 ls (.int 1 :: st) H) ∧
  (∀ ls st H, aGo cl none cd_193 0 92 ls st H = aGo cl none cd_193 0 96 ls st H) ∧
  (∀ ls st H, aGo cl none cd_193 0 95 ls st H = aGo cl none cd_193 0 96 ls (.int 0 :: st) H) ∧
  (∀ ls st H, aGo cl none cd_193 0 96 ls st H = aIStore (fun ls st => aGo cl none cd_193 0 98 ls st H) ls 5 st) ∧
  (∀ ls st H, aGo cl none cd_193 0 98 ls st H = aInc (fun ls => aGo cl none cd_193 0 101 ls st H) ls 6 1) ∧
  (∀ ls st H, aGo cl none cd_193 0 101 ls st H = aGo cl none cd_193 0 43 ls st H) ∧
  (∀ ls st H, aGo cl none cd_193 0 104 ls st H = aILoad (fun st => aGo cl none cd_193 0 105 ls st H) ls 3 st) ∧
  (∀ ls st H, aGo cl none cd_193 0 105 ls st H = aILoad (fun st => aGo cl none cd_193 0 107 ls st H) ls 5 st) ∧
  (∀ ls st H, aGo cl none cd_193 0 107 ls st H = aIf (fun p st => aGo cl none cd_193 0 p ls st H) .eq 117 110 st) ∧
  (∀ ls st H, aGo cl none cd_193 0 110 ls st H = aGo cl none cd_193 0 111 ls (.int 1 :: st) H) ∧
  (∀ ls st H, aGo cl none cd_193 0 111 ls st H = aILoad (fun st => aGo cl none cd_193 0 113 ls st H) ls 4 st) ∧
  (∀ ls st H, aGo cl none cd_193 0 113 ls st H = aBin (fun st => aGo cl none cd_193 0 114 ls st H) (fun x y => x <<< (y &&& 31)) st) ∧
  (∀ ls st H, aGo cl none cd_193 0 114 ls st H = aGo cl none cd_193 0 118 ls st H) ∧
  (∀ ls st H, aGo cl none cd_193 0 117 ls st H = aGo cl none cd_193 0 118 ls (.int 0 :: st) H) ∧
  (∀ ls st H, aGo cl none cd_193 0 118 ls st H = aBin (fun st => aGo cl none cd_193 0 119 ls st H) (fun x y => x ||| y) st) ∧
  (∀ ls st H, aGo cl none cd_193 0 119 ls st H = aIStore (fun ls st => aGo cl none cd_193 0 120 ls st H) ls 3 st) ∧
  (∀ ls st H, aGo cl none cd_193 0 120 ls st H = aRLoad (fun st => aGo cl none cd_193 0 121 ls st H) ls 0 st) ∧
  (∀ ls st H, aGo cl none cd_193 0 121 ls st H = aCallV (fun st H => aGo cl none cd_193 0 124 ls st H) cl 121 0 8 H st) ∧
  (∀ ls st H, aGo cl none cd_193 0 124 ls st H = aInc (fun ls => aGo cl none cd_193 0 127 ls st H) ls 4 1) ∧
  (∀ ls st H, aGo cl none cd_193 0 127 ls st H = aGo cl none cd_193 0 25 ls st H) ∧
  (∀ ls st H, aGo cl none cd_193 0 130 ls st H = aILoad (fun st => aGo cl none cd_193 0 131 ls st H) ls 3 st) ∧
  (∀ ls st H, aGo cl none cd_193 0 131 ls st H = aIret 0 st H) :=
  ⟨fun _ _ _ => (aGo_s rfl).trans rfl, fun _ _ _ => (aGo_s rfl).trans rfl, fun _ _ _ => (aGo_s rfl).trans rfl, fun _ _ _ => (aGo_s rfl).trans rfl, fun _ _ _ => (aGo_s rfl).trans rfl, fun _ _ _ => (aGo_s rfl).trans rfl, fun _ _ _ => (aGo_s rfl).trans rfl, fun _ _ _ => (aGo_s rfl).trans rfl, fun _ _ _ => (aGo_s rfl).trans rfl, fun _ _ _ => (aGo_s rfl).trans rfl, fun _ _ _ => (aGo_s rfl).trans rfl, fun _ _ _ => (aGo_s rfl).trans rfl, fun _ _ _ => (aGo_s rfl).trans rfl, fun _ _ _ => (aGo_s rfl).trans rfl, fun _ _ _ => (aGo_s rfl).trans rfl, fun _ _ _ => (aGo_s rfl).trans rfl, fun _ _ _ => (aGo_s rfl).trans rfl, fun _ _ _ => (aGo_s rfl).trans rfl, fun _ _ _ => (aGo_s rfl).trans rfl, fun _ _ _ => (aGo_s rfl).trans rfl, fun _ _ _ => (aGo_s rfl).trans rfl, fun _ _ _ => (aGo_s rfl).trans rfl, fun _ _ _ => (aGo_s rfl).trans rfl, fun _ _ _ => (aGo_s rfl).trans rfl, fun _ _ _ => (aGo_s rfl).trans rfl, fun _ _ _ => (aGo_s rfl).trans rfl, fun _ _ _ => (aGo_s rfl).trans rfl, fun _ _ _ => (aGo_s rfl).trans rfl, fun _ _ _ => (aGo_s rfl).trans rfl, fun _ _ _ => (aGo_s rfl).trans rfl, fun _ _ _ => (aGo_s rfl).trans rfl, fun _ _ _ => (aGo_s rfl).trans rfl, fun _ _ _ => (aGo_s rfl).trans rfl, fun _ _ _ => (aGo_s rfl).trans rfl, fun _ _ _ => (aGo_s rfl).trans rfl, fun _ _ _ => (aGo_s rfl).trans rfl, fun _ _ _ => (aGo_s rfl).trans rfl, fun _ _ _ => (aGo_s rfl).trans rfl, fun _ _ _ => (aGo_s rfl).trans rfl, fun _ _ _ => (aGo_s rfl).trans rfl, fun _ _ _ => (aGo_s rfl).trans rfl, fun _ _ _ => (aGo_s rfl).trans rfl, fun _ _ _ => (aGo_s rfl).trans rfl, fun _ _ _ => (aGo_s rfl).trans rfl, fun _ _ _ => (aGo_s rfl).trans rfl, fun _ _ _ => (aGo_s rfl).trans rfl, fun _ _ _ => (aGo_s rfl).trans rfl, fun _ _ _ => (aGo_s rfl).trans rfl, fun _ _ _ => (aGo_s rfl).trans rfl, fun _ _ _ => (aGo_s rfl).trans rfl, fun _ _ _ => (aGo_s rfl).trans rfl, fun _ _ _ => (aGo_s rfl).trans rfl, fun _ _ _ => (aGo_s rfl).trans rfl, fun _ _ _ => (aGo_s rfl).trans rfl, fun _ _ _ => (aGo_s rfl).trans rfl, fun _ _ _ => (aGo_s rfl).trans rfl, fun _ _ _ => (aGo_s rfl).trans rfl, fun _ _ _ => (aGo_s rfl).trans rfl, fun _ _ _ => (aGo_s rfl).trans rfl, fun _ _ _ => (aGo_s rfl).trans rfl, fun _ _ _ => (aGo_s rfl).trans rfl, fun _ _ _ => (aGo_s rfl).trans rfl, fun _ _ _ => (aGo_s rfl).trans rfl, fun _ _ _ => (aGo_s rfl).trans rfl, fun _ _ _ => (aGo_s rfl).trans rfl, fun _ _ _ => (aGo_s rfl).trans rfl, fun _ _ _ => (aGo_s rfl).trans rfl, fun _ _ _ => (aGo_s rfl).trans rfl, fun _ _ _ => (aGo_s rfl).trans rfl, fun _ _ _ => (aGo_s rfl).trans rfl, fun _ _ _ => (aGo_s rfl).trans rfl, fun _ _ _ => (aGo_s rfl).trans rfl⟩
theorem s_193_25 {cl : Nat → List Value → aH → aRs} : ∀ ls st H, aGo cl none cd_193 0 25 ls st H = aILoad (fun st => aGo cl none cd_193 0 27 ls st H) ls 4 st := fun _ _ _ => (aGo_s rfl).trans rfl
theorem s_193_43 {cl : Nat → List Value → aH → aRs} : ∀ ls st H, aGo cl none cd_193 0 43 ls st H = aILoad (fun st => aGo cl none cd_193 0 45 ls st H) ls 6 st := fun _ _ _ => (aGo_s rfl).trans rfl
theorem e_193 {d : Nat} {x0 : Nat} {x1 : Int32} {H : aH} : aCall aMt (d + 1) 193 [.ref x0, .int x1] H = aGo (aCall aMt d) none cd_193 0 0 [some (.ref x0), some (.int x1), none, none, none, none, none, none] [] H := (c_0 rfl ⟨rfl, Nat.le_of_ble_eq_true rfl, Nat.le_of_ble_eq_true rfl⟩).trans rfl
theorem s_194 {cl : Nat → List Value → aH → aRs} : (∀ ls st H, aGo cl none cd_194 0 0 ls st H = aILoad (fun st => aGo cl none cd_194 0 1 ls st H) ls 1 st) ∧
  (∀ ls st H, aGo cl none cd_194 0 1 ls st H = aGo cl none cd_194 0 2 ls (.int 0 :: st) H) ∧
  (∀ ls st H, aGo cl none cd_194 0 2 ls st H = aGo cl none cd_194 0 4 ls (.int 60 :: st) H) ∧
  (∀ ls st H, aGo cl none cd_194 0 4 ls st H = aCallI (fun st H => aGo cl none cd_194 0 7 ls st H) cl 117 3 H st) ∧
  (∀ ls st H, aGo cl none cd_194 0 7 ls st H = aIf (fun p st => aGo cl none cd_194 0 p ls st H) .eq 19 10 st) ∧
  (∀ ls st H, aGo cl none cd_194 0 10 ls st H = aILoad (fun st => aGo cl none cd_194 0 11 ls st H) ls 2 st) ∧
  (∀ ls st H, aGo cl none cd_194 0 11 ls st H = aGo cl none cd_194 0 12 ls (.int 0 :: st) H) ∧
  (∀ ls st H, aGo cl none cd_194 0 12 ls st H = aGo cl none cd_194 0 13 ls (.int 1 :: st) H) ∧
  (∀ ls st H, aGo cl none cd_194 0 13 ls st H = aCallI (fun st H => aGo cl none cd_194 0 16 ls st H) cl 117 3 H st) ∧
  (∀ ls st H, aGo cl none cd_194 0 16 ls st H = aIf (fun p st => aGo cl none cd_194 0 p ls st H) .ne 25 19 st) ∧
  (∀ ls st H, aGo cl none cd_194 0 19 ls st H = aRLoad (fun st => aGo cl none cd_194 0 20 ls st H) ls 0 st) ∧
  (∀ ls st H, aGo cl none cd_194 0 20 ls st H = aGo cl none cd_194 0 21 ls (.int 1 :: st) H) ∧
  (∀ ls st H, aGo cl none cd_194 0 21 ls st H = aCallV (fun st H => aGo cl none cd_194 0 24 ls st H) cl 116 1 8 H st) ∧
  (∀ ls st H, aGo cl none cd_194 0 24 ls st H = aIret 0 st H) ∧
  (∀ ls st H, aGo cl none cd_194 0 25 ls st H = aRLoad (fun st => aGo cl none cd_194 0 26 ls st H) ls 0 st) ∧
  (∀ ls st H, aGo cl none cd_194 0 26 ls st H = aCallV (fun st H => aGo cl none cd_194 0 29 ls st H) cl 120 0 8 H st) ∧
  (∀ ls st H, aGo cl none cd_194 0 29 ls st H = aGo cl none cd_194 0 30 ls (.int 0 :: st) H) ∧
  (∀ ls st H, aGo cl none cd_194 0 30 ls st H = aIStore (fun ls st => aGo cl none cd_194 0 31 ls st H) ls 3 st) ∧
  (∀ ls st H, aGo cl none cd_194 0 32 ls st H = aILoad (fun st => aGo cl none cd_194 0 33 ls st H) ls 1 st) ∧
  (∀ ls st H, aGo cl none cd_194 0 33 ls st H = aIc (fun p st => aGo cl none cd_194 0 p ls st H) .ge 48 36 st) ∧
  (∀ ls st H, aGo cl none cd_194 0 36 ls st H = aRLoad (fun st => aGo cl none cd_194 0 37 ls st H) ls 0 st) ∧
  (∀ ls st H, aGo cl none cd_194 0 37 ls st H = aCallV (fun st H => aGo cl none cd_194 0 40 ls st H) cl 162 0 8 H st) ∧
  (∀ ls st H, aGo cl none cd_194 0 40 ls st H = aIStore (fun ls st => aGo cl none cd_194 0 42 ls st H) ls 4 st) ∧
  (∀ ls st H, aGo cl none cd_194 0 42 ls st H = aInc (fun ls => aGo cl none cd_194 0 45 ls st H) ls 3 1) ∧
  (∀ ls st H, aGo cl none cd_194 0 45 ls st H = aGo cl none cd_194 0 31 ls st H) ∧
  (∀ ls st H, aGo cl none cd_194 0 48 ls st H = aILoad (fun st => aGo cl none cd_194 0 49 ls st H) ls 2 st) ∧
  (∀ ls st H, aGo cl none cd_194 0 49 ls st H = aIf (fun p st => aGo cl none cd_194 0 p ls st H) .ne 61 52 st) ∧
  (∀ ls st H, aGo cl none cd_194 0 52 ls st H = aRLoad (fun st => aGo cl none cd_194 0 53 ls st H) ls 0 st) ∧
  (∀ ls st H, aGo cl none cd_194 0 53 ls st H = aGet (fun st => aGo cl none cd_194 0 56 ls st H) 8 0 H st) ∧
  (∀ ls st H, aGo cl none cd_194 0 56 ls st H = aGo cl none cd_194 0 57 ls (.int 1 :: st) H) ∧
  (∀ ls st H, aGo cl none cd_194 0 57 ls st H = aIald (fun st => aGo cl none cd_194 0 58 ls st H) none H st) ∧
  (∀ ls st H, aGo cl none cd_194 0 58 ls st H = aGo cl none cd_194 0 65 ls st H) ∧
  (∀ ls st H, aGo cl none cd_194 0 61 ls st H = aRLoad (fun st => aGo cl none cd_194 0 62 ls st H) ls 0 st) ∧
  (∀ ls st H, aGo cl none cd_194 0 62 ls st H = aCallV (fun st H => aGo cl none cd_194 0 65 ls st H) cl 130 0 8 H st) ∧
  (∀ ls st H, aGo cl none cd_194 0 65 ls st H = aIStore (fun ls st => aGo cl none cd_194 0 66 ls st H) ls 3 st) ∧
  (∀ ls st H, aGo cl none cd_194 0 66 ls st H = aRLoad (fun st => aGo cl none cd_194 0 67 ls st H) ls 0 st) ∧
  (∀ ls st H, aGo cl none cd_194 0 67 ls st H = aCallV (fun st H => aGo cl none cd_194 0 70 ls st H) cl 121 0 8 H st) ∧
  (∀ ls st H, aGo cl none cd_194 0 70 ls st H = aILoad (fun st => aGo cl none cd_194 0 71 ls st H) ls 3 st) ∧
  (∀ ls st H, aGo cl none cd_194 0 71 ls st H = aIret 0 st H) :=
  ⟨fun _ _ _ => (aGo_s rfl).trans rfl, fun _ _ _ => (aGo_s rfl).trans rfl, fun _ _ _ => (aGo_s rfl).trans rfl, fun _ _ _ => (aGo_s rfl).trans rfl, fun _ _ _ => (aGo_s rfl).trans rfl, fun _ _ _ => (aGo_s rfl).trans rfl, fun _ _ _ => (aGo_s rfl).trans rfl, fun _ _ _ => (aGo_s rfl).trans rfl, fun _ _ _ => (aGo_s rfl).trans rfl, fun _ _ _ => (aGo_s rfl).trans rfl, fun _ _ _ => (aGo_s rfl).trans rfl, fun _ _ _ => (aGo_s rfl).trans rfl, fun _ _ _ => (aGo_s rfl).trans rfl, fun _ _ _ => (aGo_s rfl).trans rfl, fun _ _ _ => (aGo_s rfl).trans rfl, fun _ _ _ => (aGo_s rfl).trans rfl, fun _ _ _ => (aGo_s rfl).trans rfl, fun _ _ _ => (aGo_s rfl).trans rfl, fun _ _ _ => (aGo_s rfl).trans rfl, fun _ _ _ => (aGo_s rfl).trans rfl, fun _ _ _ => (aGo_s rfl).trans rfl, fun _ _ _ => (aGo_s rfl).trans rfl, fun _ _ _ => (aGo_s rfl).trans rfl, fun _ _ _ => (aGo_s rfl).trans rfl, fun _ _ _ => (aGo_s rfl).trans rfl, fun _ _ _ => (aGo_s rfl).trans rfl, fun _ _ _ => (aGo_s rfl).trans rfl, fun _ _ _ => (aGo_s rfl).trans rfl, fun _ _ _ => (aGo_s rfl).trans rfl, fun _ _ _ => (aGo_s rfl).trans rfl, fun _ _ _ => (aGo_s rfl).trans rfl, fun _ _ _ => (aGo_s rfl).trans rfl, fun _ _ _ => (aGo_s rfl).trans rfl, fun _ _ _ => (aGo_s rfl).trans rfl, fun _ _ _ => (aGo_s rfl).trans rfl, fun _ _ _ => (aGo_s rfl).trans rfl, fun _ _ _ => (aGo_s rfl).trans rfl, fun _ _ _ => (aGo_s rfl).trans rfl, fun _ _ _ => (aGo_s rfl).trans rfl⟩
theorem s_194_31 {cl : Nat → List Value → aH → aRs} : ∀ ls st H, aGo cl none cd_194 0 31 ls st H = aILoad (fun st => aGo cl none cd_194 0 32 ls st H) ls 3 st := fun _ _ _ => (aGo_s rfl).trans rfl
theorem e_194 {d : Nat} {x0 : Nat} {x1 : Int32} {x2 : Int32} {H : aH} : aCall aMt (d + 1) 194 [.ref x0, .int x1, .int x2] H = aGo (aCall aMt d) none cd_194 0 0 [some (.ref x0), some (.int x1), some (.int x2), none, none] [] H := (c_0 rfl ⟨rfl, Nat.le_of_ble_eq_true rfl, Nat.le_of_ble_eq_true rfl⟩).trans rfl
theorem s_195 {cl : Nat → List Value → aH → aRs} : (∀ ls st H, aGo cl none cd_195 0 0 ls st H = aGo cl none cd_195 0 1 ls (.int (-1) :: st) H) ∧
  (∀ ls st H, aGo cl none cd_195 0 1 ls st H = aIStore (fun ls st => aGo cl none cd_195 0 2 ls st H) ls 1 st) ∧
  (∀ ls st H, aGo cl none cd_195 0 2 ls st H = aGo cl none cd_195 0 3 ls (.int 0 :: st) H) ∧
  (∀ ls st H, aGo cl none cd_195 0 3 ls st H = aIStore (fun ls st => aGo cl none cd_195 0 4 ls st H) ls 2 st) ∧
  (∀ ls st H, aGo cl none cd_195 0 5 ls st H = aRLoad (fun st => aGo cl none cd_195 0 6 ls st H) ls 0 st) ∧
  (∀ ls st H, aGo cl none cd_195 0 6 ls st H = aGet (fun st => aGo cl none cd_195 0 9 ls st H) 8 0 H st) ∧
  (∀ ls st H, aGo cl none cd_195 0 9 ls st H = aGo cl none cd_195 0 11 ls (.int 8 :: st) H) ∧
  (∀ ls st H, aGo cl none cd_195 0 11 ls st H = aIald (fun st => aGo cl none cd_195 0 12 ls st H) none H st) ∧
  (∀ ls st H, aGo cl none cd_195 0 12 ls st H = aIc (fun p st => aGo cl none cd_195 0 p ls st H) .ge 55 15 st) ∧
  (∀ ls st H, aGo cl none cd_195 0 15 ls st H = aRLoad (fun st => aGo cl none cd_195 0 16 ls st H) ls 0 st) ∧
  (∀ ls st H, aGo cl none cd_195 0 16 ls st H = aILoad (fun st => aGo cl none cd_195 0 17 ls st H) ls 2 st) ∧
  (∀ ls st H, aGo cl none cd_195 0 17 ls st H = aCallV (fun st H => aGo cl none cd_195 0 20 ls st H) cl 129 1 8 H st) ∧
  (∀ ls st H, aGo cl none cd_195 0 20 ls st H = aIf (fun p st => aGo cl none cd_195 0 p ls st H) .eq 47 23 st) ∧
  (∀ ls st H, aGo cl none cd_195 0 23 ls st H = aILoad (fun st => aGo cl none cd_195 0 24 ls st H) ls 1 st) ∧
  (∀ ls st H, aGo cl none cd_195 0 24 ls st H = aGo cl none cd_195 0 25 ls (.int (-1) :: st) H) ∧
  (∀ ls st H, aGo cl none cd_195 0 25 ls st H = aIc (fun p st => aGo cl none cd_195 0 p ls st H) .eq 43 28 st) ∧
  (∀ ls st H, aGo cl none cd_195 0 28 ls st H = aRLoad (fun st => aGo cl none cd_195 0 29 ls st H) ls 0 st) ∧
  (∀ ls st H, aGo cl none cd_195 0 29 ls st H = aILoad (fun st => aGo cl none cd_195 0 30 ls st H) ls 2 st) ∧
  (∀ ls st H, aGo cl none cd_195 0 30 ls st H = aGo cl none cd_195 0 31 ls (.int 3 :: st) H) ∧
  (∀ ls st H, aGo cl none cd_195 0 31 ls st H = aCallV (fun st H => aGo cl none cd_195 0 34 ls st H) cl 126 2 8 H st) ∧
  (∀ ls st H, aGo cl none cd_195 0 34 ls st H = aRLoad (fun st => aGo cl none cd_195 0 35 ls st H) ls 0 st) ∧
  (∀ ls st H, aGo cl none cd_195 0 35 ls st H = aILoad (fun st => aGo cl none cd_195 0 36 ls st H) ls 1 st) ∧
  (∀ ls st H, aGo cl none cd_195 0 36 ls st H = aGo cl none cd_195 0 37 ls (.int 3 :: st) H) ∧
  (∀ ls st H, aGo cl none cd_195 0 37 ls st H = aCallV (fun st H => aGo cl none cd_195 0 40 ls st H) cl 126 2 8 H st) ∧
  (∀ ls st H, aGo cl none cd_195 0 40 ls st H = aIc (fun p st => aGo cl none cd_195 0 p ls st H) .le 47 43 st) ∧
  (∀ ls st H, aGo cl none cd_195 0 43 ls st H = aILoad (fun st => aGo cl none cd_195 0 44 ls st H) ls 2 st) ∧
  (∀ ls st H, aGo cl none cd_195 0 44 ls st H = aGo cl none cd_195 0 48 ls st H) ∧
  (∀ ls st H, aGo cl none cd_195 0 47 ls st H = aILoad (fun st => aGo cl none cd_195 0 48 ls st H) ls 1 st) ∧
  (∀ ls st H, aGo cl none cd_195 0 48 ls st H = aIStore (fun ls st => aGo cl none cd_195 0 49 ls st H) ls 1 st) ∧
  (∀ ls st H, aGo cl none cd_195 0 49 ls st H = aInc (fun ls => aGo cl none cd_195 0 52 ls st H) ls 2 1) ∧
  (∀ ls st H, aGo cl none cd_195 0 52 ls st H = aGo cl none cd_195 0 4 ls st H) ∧
  (∀ ls st H, aGo cl none cd_195 0 55 ls st H = aILoad (fun st => aGo cl none cd_195 0 56 ls st H) ls 1 st) ∧
  (∀ ls st H, aGo cl none cd_195 0 56 ls st H = aGo cl none cd_195 0 57 ls (.int (-1) :: st) H) ∧
  (∀ ls st H, aGo cl none cd_195 0 57 ls st H = aIc (fun p st => aGo cl none cd_195 0 p ls st H) .ne 68 60 st) ∧
  (∀ ls st H, aGo cl none cd_195 0 60 ls st H = aRLoad (fun st => aGo cl none cd_195 0 61 ls st H) ls 0 st) ∧
  (∀ ls st H, aGo cl none cd_195 0 61 ls st H = aGo cl none cd_195 0 62 ls (.int 2 :: st) H) ∧
  (∀ ls st H, aGo cl none cd_195 0 62 ls st H = aCallV (fun st H => aGo cl none cd_195 0 65 ls st H) cl 116 1 8 H st) ∧
  (∀ ls st H, aGo cl none cd_195 0 65 ls st H = aGo cl none cd_195 0 69 ls st H) ∧
  (∀ ls st H, aGo cl none cd_195 0 68 ls st H = aILoad (fun st => aGo cl none cd_195 0 69 ls st H) ls 1 st) ∧
  (∀ ls st H, aGo cl none cd_195 0 69 ls st H = aIret 0 st H) :=
  ⟨fun _ _ _ => (aGo_s rfl).trans rfl, fun _ _ _ => (aGo_s rfl).trans rfl, fun _ _ _ => (aGo_s rfl).trans rfl, fun _ _ _ => (aGo_s rfl).trans rfl, fun _ _ _ => (aGo_s rfl).trans rfl, fun _ _ _ => (aGo_s rfl).trans rfl, fun _ _ _ => (aGo_s rfl).trans rfl, fun _ _ _ => (aGo_s rfl).trans rfl, fun _ _ _ => (aGo_s rfl).trans rfl, fun _ _ _ => (aGo_s rfl).trans rfl, fun _ _ _ => (aGo_s rfl).trans rfl, fun _ _ _ => (aGo_s rfl).trans rfl, fun _ _ _ => (aGo_s rfl).trans rfl, fun _ _ _ => (aGo_s rfl).trans rfl, fun _ _ _ => (aGo_s rfl).trans rfl, fun _ _ _ => (aGo_s rfl).trans rfl, fun _ _ _ => (aGo_s rfl).trans rfl, fun _ _ _ => (aGo_s rfl).trans rfl, fun _ _ _ => (aGo_s rfl).trans rfl, fun _ _ _ => (aGo_s rfl).trans rfl, fun _ _ _ => (aGo_s rfl).trans rfl, fun _ _ _ => (aGo_s rfl).trans rfl, fun _ _ _ => (aGo_s rfl).trans rfl, fun _ _ _ => (aGo_s rfl).trans rfl, fun _ _ _ => (aGo_s rfl).trans rfl, fun _ _ _ => (aGo_s rfl).trans rfl, fun _ _ _ => (aGo_s rfl).trans rfl, fun _ _ _ => (aGo_s rfl).trans rfl, fun _ _ _ => (aGo_s rfl).trans rfl, fun _ _ _ => (aGo_s rfl).trans rfl, fun _ _ _ => (aGo_s rfl).trans rfl, fun _ _ _ => (aGo_s rfl).trans rfl, fun _ _ _ => (aGo_s rfl).trans rfl, fun _ _ _ => (aGo_s rfl).trans rfl, fun _ _ _ => (aGo_s rfl).trans rfl, fun _ _ _ => (aGo_s rfl).trans rfl, fun _ _ _ => (aGo_s rfl).trans rfl, fun _ _ _ => (aGo_s rfl).trans rfl, fun _ _ _ => (aGo_s rfl).trans rfl, fun _ _ _ => (aGo_s rfl).trans rfl⟩
theorem s_195_4 {cl : Nat → List Value → aH → aRs} : ∀ ls st H, aGo cl none cd_195 0 4 ls st H = aILoad (fun st => aGo cl none cd_195 0 5 ls st H) ls 2 st := fun _ _ _ => (aGo_s rfl).trans rfl
theorem e_195 {d : Nat} {x0 : Nat} {H : aH} : aCall aMt (d + 1) 195 [.ref x0] H = aGo (aCall aMt d) none cd_195 0 0 [some (.ref x0), none, none] [] H := (c_0 rfl ⟨rfl, Nat.le_of_ble_eq_true rfl, Nat.le_of_ble_eq_true rfl⟩).trans rfl
theorem s_196 {cl : Nat → List Value → aH → aRs} : (∀ ls st H, aGo cl none cd_196 3 0 ls st H = aRLoad (fun st => aGo cl none cd_196 3 1 ls st H) ls 0 st) ∧
  (∀ ls st H, aGo cl none cd_196 3 1 ls st H = aGet (fun st => aGo cl none cd_196 3 4 ls st H) 8 14 H st) ∧
  (∀ ls st H, aGo cl none cd_196 3 4 ls st H = aGo cl none cd_196 3 6 ls (.int 30 :: st) H) ∧
  (∀ ls st H, aGo cl none cd_196 3 6 ls st H = aIc (fun p st => aGo cl none cd_196 3 p ls st H) .ge 29 9 st) ∧
  (∀ ls st H, aGo cl none cd_196 3 9 ls st H = aRLoad (fun st => aGo cl none cd_196 3 10 ls st H) ls 0 st) ∧
  (∀ ls st H, aGo cl none cd_196 3 10 ls st H = aGet (fun st => aGo cl none cd_196 3 13 ls st H) 8 15 H st) ∧
  (∀ ls st H, aGo cl none cd_196 3 13 ls st H = aRLoad (fun st => aGo cl none cd_196 3 14 ls st H) ls 0 st) ∧
  (∀ ls st H, aGo cl none cd_196 3 14 ls st H = aGet (fun st => aGo cl none cd_196 3 17 ls st H) 8 14 H st) ∧
  (∀ ls st H, aGo cl none cd_196 3 17 ls st H = aILoad (fun st => aGo cl none cd_196 3 18 ls st H) ls 1 st) ∧
  (∀ ls st H, aGo cl none cd_196 3 18 ls st H = aIast (fun st H => aGo cl none cd_196 3 19 ls st H) H st) ∧
  (∀ ls st H, aGo cl none cd_196 3 19 ls st H = aRLoad (fun st => aGo cl none cd_196 3 20 ls st H) ls 0 st) ∧
  (∀ ls st H, aGo cl none cd_196 3 20 ls st H = aDup (fun st => aGo cl none cd_196 3 21 ls st H) st) ∧
  (∀ ls st H, aGo cl none cd_196 3 21 ls st H = aGet (fun st => aGo cl none cd_196 3 24 ls st H) 8 14 H st) ∧
  (∀ ls st H, aGo cl none cd_196 3 24 ls st H = aGo cl none cd_196 3 25 ls (.int 1 :: st) H) ∧
  (∀ ls st H, aGo cl none cd_196 3 25 ls st H = aBin (fun st => aGo cl none cd_196 3 26 ls st H) (fun x y => x + y) st) ∧
  (∀ ls st H, aGo cl none cd_196 3 26 ls st H = aPut (fun st H => aGo cl none cd_196 3 29 ls st H) 8 14 H st) ∧
  (∀ ls st H, aGo cl none cd_196 3 29 ls st H = aVret 3 st H) :=
  ⟨fun _ _ _ => (aGo_s rfl).trans rfl, fun _ _ _ => (aGo_s rfl).trans rfl, fun _ _ _ => (aGo_s rfl).trans rfl, fun _ _ _ => (aGo_s rfl).trans rfl, fun _ _ _ => (aGo_s rfl).trans rfl, fun _ _ _ => (aGo_s rfl).trans rfl, fun _ _ _ => (aGo_s rfl).trans rfl, fun _ _ _ => (aGo_s rfl).trans rfl, fun _ _ _ => (aGo_s rfl).trans rfl, fun _ _ _ => (aGo_s rfl).trans rfl, fun _ _ _ => (aGo_s rfl).trans rfl, fun _ _ _ => (aGo_s rfl).trans rfl, fun _ _ _ => (aGo_s rfl).trans rfl, fun _ _ _ => (aGo_s rfl).trans rfl, fun _ _ _ => (aGo_s rfl).trans rfl, fun _ _ _ => (aGo_s rfl).trans rfl, fun _ _ _ => (aGo_s rfl).trans rfl⟩
theorem e_196 {d : Nat} {x0 : Nat} {x1 : Int32} {H : aH} : aCall aMt (d + 1) 196 [.ref x0, .int x1] H = aGo (aCall aMt d) none cd_196 3 0 [some (.ref x0), some (.int x1)] [] H := (c_0 rfl ⟨rfl, Nat.le_of_ble_eq_true rfl, Nat.le_of_ble_eq_true rfl⟩).trans rfl
theorem s_197 {cl : Nat → List Value → aH → aRs} : (∀ ls st H, aGo cl none cd_197 0 0 ls st H = aILoad (fun st => aGo cl none cd_197 0 1 ls st H) ls 0 st) ∧
  (∀ ls st H, aGo cl none cd_197 0 1 ls st H = aGo cl none cd_197 0 2 ls (.int 4 :: st) H) ∧
  (∀ ls st H, aGo cl none cd_197 0 2 ls st H = aIc (fun p st => aGo cl none cd_197 0 p ls st H) .ne 9 5 st) ∧
  (∀ ls st H, aGo cl none cd_197 0 5 ls st H = aGo cl none cd_197 0 6 ls (.int 1 :: st) H) ∧
  (∀ ls st H, aGo cl none cd_197 0 6 ls st H = aGo cl none cd_197 0 19 ls st H) ∧
  (∀ ls st H, aGo cl none cd_197 0 9 ls st H = aILoad (fun st => aGo cl none cd_197 0 10 ls st H) ls 0 st) ∧
  (∀ ls st H, aGo cl none cd_197 0 10 ls st H = aGo cl none cd_197 0 11 ls (.int 5 :: st) H) ∧
  (∀ ls st H, aGo cl none cd_197 0 11 ls st H = aIc (fun p st => aGo cl none cd_197 0 p ls st H) .ne 18 14 st) ∧
  (∀ ls st H, aGo cl none cd_197 0 14 ls st H = aGo cl none cd_197 0 15 ls (.int 2 :: st) H) ∧
  (∀ ls st H, aGo cl none cd_197 0 15 ls st H = aGo cl none cd_197 0 19 ls st H) ∧
  (∀ ls st H, aGo cl none cd_197 0 18 ls st H = aGo cl none cd_197 0 19 ls (.int 0 :: st) H) ∧
  (∀ ls st H, aGo cl none cd_197 0 19 ls st H = aIret 0 st H) :=
  ⟨fun _ _ _ => (aGo_s rfl).trans rfl, fun _ _ _ => (aGo_s rfl).trans rfl, fun _ _ _ => (aGo_s rfl).trans rfl, fun _ _ _ => (aGo_s rfl).trans rfl, fun _ _ _ => (aGo_s rfl).trans rfl, fun _ _ _ => (aGo_s rfl).trans rfl, fun _ _ _ => (aGo_s rfl).trans rfl, fun _ _ _ => (aGo_s rfl).trans rfl, fun _ _ _ => (aGo_s rfl).trans rfl, fun _ _ _ => (aGo_s rfl).trans rfl, fun _ _ _ => (aGo_s rfl).trans rfl, fun _ _ _ => (aGo_s rfl).trans rfl⟩
theorem e_197 {d : Nat} {x0 : Int32} {H : aH} : aCall aMt (d + 1) 197 [.int x0] H = aGo (aCall aMt d) none cd_197 0 0 [some (.int x0)] [] H := (c_0 rfl ⟨rfl, Nat.le_of_ble_eq_true rfl, Nat.le_of_ble_eq_true rfl⟩).trans rfl
theorem s_198 {cl : Nat → List Value → aH → aRs} : (∀ ls st H, aGo cl none cd_198 0 0 ls st H = aRLoad (fun st => aGo cl none cd_198 0 1 ls st H) ls 0 st) ∧
  (∀ ls st H, aGo cl none cd_198 0 1 ls st H = aRLoad (fun st => aGo cl none cd_198 0 2 ls st H) ls 0 st) ∧
  (∀ ls st H, aGo cl none cd_198 0 2 ls st H = aGet (fun st => aGo cl none cd_198 0 5 ls st H) 8 16 H st) ∧
  (∀ ls st H, aGo cl none cd_198 0 5 ls st H = aGo cl none cd_198 0 6 ls (.int 0 :: st) H) ∧
  (∀ ls st H, aGo cl none cd_198 0 6 ls st H = aCallV (fun st H => aGo cl none cd_198 0 9 ls st H) cl 124 2 8 H st) ∧
  (∀ ls st H, aGo cl none cd_198 0 9 ls st H = aIret 0 st H) :=
  ⟨fun _ _ _ => (aGo_s rfl).trans rfl, fun _ _ _ => (aGo_s rfl).trans rfl, fun _ _ _ => (aGo_s rfl).trans rfl, fun _ _ _ => (aGo_s rfl).trans rfl, fun _ _ _ => (aGo_s rfl).trans rfl, fun _ _ _ => (aGo_s rfl).trans rfl⟩
theorem e_198 {d : Nat} {x0 : Nat} {H : aH} : aCall aMt (d + 1) 198 [.ref x0] H = aGo (aCall aMt d) none cd_198 0 0 [some (.ref x0)] [] H := (c_0 rfl ⟨rfl, Nat.le_of_ble_eq_true rfl, Nat.le_of_ble_eq_true rfl⟩).trans rfl
theorem s_199 {cl : Nat → List Value → aH → aRs} : (∀ ls st H, aGo cl none cd_199 0 0 ls st H = aRLoad (fun st => aGo cl none cd_199 0 1 ls st H) ls 0 st) ∧
  (∀ ls st H, aGo cl none cd_199 0 1 ls st H = aRLoad (fun st => aGo cl none cd_199 0 2 ls st H) ls 0 st) ∧
  (∀ ls st H, aGo cl none cd_199 0 2 ls st H = aGet (fun st => aGo cl none cd_199 0 5 ls st H) 8 16 H st) ∧
  (∀ ls st H, aGo cl none cd_199 0 5 ls st H = aGo cl none cd_199 0 6 ls (.int 1 :: st) H) ∧
  (∀ ls st H, aGo cl none cd_199 0 6 ls st H = aCallV (fun st H => aGo cl none cd_199 0 9 ls st H) cl 124 2 8 H st) ∧
  (∀ ls st H, aGo cl none cd_199 0 9 ls st H = aIret 0 st H) :=
  ⟨fun _ _ _ => (aGo_s rfl).trans rfl, fun _ _ _ => (aGo_s rfl).trans rfl, fun _ _ _ => (aGo_s rfl).trans rfl, fun _ _ _ => (aGo_s rfl).trans rfl, fun _ _ _ => (aGo_s rfl).trans rfl, fun _ _ _ => (aGo_s rfl).trans rfl⟩
theorem e_199 {d : Nat} {x0 : Nat} {H : aH} : aCall aMt (d + 1) 199 [.ref x0] H = aGo (aCall aMt d) none cd_199 0 0 [some (.ref x0)] [] H := (c_0 rfl ⟨rfl, Nat.le_of_ble_eq_true rfl, Nat.le_of_ble_eq_true rfl⟩).trans rfl
