/-! rewriting rows: an instruction a row; loop heads stand alone (by program) -/
theorem s_38 {cl : Nat → List Value → aH → aRs} : (∀ ls st H, aGo cl none cd_38 0 0 ls st H = aRLoad (fun st => aGo cl none cd_38 0 1 ls st H) ls 0 st) ∧
  (∀ ls st H, aGo cl none cd_38 0 1 ls st H = aRLoad (fun st => aGo cl none cd_38 0 2 ls st H) ls 1 st) ∧
  (∀ ls st H, aGo cl none cd_38 0 2 ls st H = aPut (fun st H => aGo cl none cd_38 0 5 ls st H) 3 1 H st) ∧
  (∀ ls st H, aGo cl none cd_38 0 5 ls st H = aRLoad (fun st => aGo cl none cd_38 0 6 ls st H) ls 0 st) ∧
  (∀ ls st H, aGo cl none cd_38 0 6 ls st H = aILoad (fun st => aGo cl none cd_38 0 7 ls st H) ls 2 st) ∧
  (∀ ls st H, aGo cl none cd_38 0 7 ls st H = aRLoad (fun st => aGo cl none cd_38 0 8 ls st H) ls 1 st) ∧
  (∀ ls st H, aGo cl none cd_38 0 8 ls st H = aAlen (fun st => aGo cl none cd_38 0 9 ls st H) none H st) ∧
  (∀ ls st H, aGo cl none cd_38 0 9 ls st H = aMin (fun st => aGo cl none cd_38 0 12 ls st H) st) ∧
  (∀ ls st H, aGo cl none cd_38 0 12 ls st H = aPut (fun st H => aGo cl none cd_38 0 15 ls st H) 3 2 H st) ∧
  (∀ ls st H, aGo cl none cd_38 0 15 ls st H = aRLoad (fun st => aGo cl none cd_38 0 16 ls st H) ls 0 st) ∧
  (∀ ls st H, aGo cl none cd_38 0 16 ls st H = aILoad (fun st => aGo cl none cd_38 0 17 ls st H) ls 3 st) ∧
  (∀ ls st H, aGo cl none cd_38 0 17 ls st H = aIf (fun p st => aGo cl none cd_38 0 p ls st H) .ne 25 20 st) ∧
  (∀ ls st H, aGo cl none cd_38 0 20 ls st H = aGo cl none cd_38 0 22 ls (.ref 2001 :: st) H) ∧
  (∀ ls st H, aGo cl none cd_38 0 22 ls st H = aGo cl none cd_38 0 27 ls st H) ∧
  (∀ ls st H, aGo cl none cd_38 0 25 ls st H = aGo cl none cd_38 0 27 ls (.ref 2002 :: st) H) ∧
  (∀ ls st H, aGo cl none cd_38 0 27 ls st H = aPut (fun st H => aGo cl none cd_38 0 30 ls st H) 3 4 H st) ∧
  (∀ ls st H, aGo cl none cd_38 0 30 ls st H = aRLoad (fun st => aGo cl none cd_38 0 31 ls st H) ls 0 st) ∧
  (∀ ls st H, aGo cl none cd_38 0 31 ls st H = aGo cl none cd_38 0 32 ls (.int 0 :: st) H) ∧
  (∀ ls st H, aGo cl none cd_38 0 32 ls st H = aPut (fun st H => aGo cl none cd_38 0 35 ls st H) 3 3 H st) ∧
  (∀ ls st H, aGo cl none cd_38 0 35 ls st H = aRLoad (fun st => aGo cl none cd_38 0 36 ls st H) ls 0 st) ∧
  (∀ ls st H, aGo cl none cd_38 0 36 ls st H = aGet (fun st => aGo cl none cd_38 0 39 ls st H) 3 0 H st) ∧
  (∀ ls st H, aGo cl none cd_38 0 39 ls st H = aCallV (fun st H => aGo cl none cd_38 0 42 ls st H) cl 20 0 1 H st) ∧
  (∀ ls st H, aGo cl none cd_38 0 42 ls st H = aRLoad (fun st => aGo cl none cd_38 0 43 ls st H) ls 0 st) ∧
  (∀ ls st H, aGo cl none cd_38 0 43 ls st H = aGo cl none cd_38 0 44 ls (.int 0 :: st) H) ∧
  (∀ ls st H, aGo cl none cd_38 0 44 ls st H = aGo cl none cd_38 0 45 ls (.int 0 :: st) H) ∧
  (∀ ls st H, aGo cl none cd_38 0 45 ls st H = aCallV (fun st H => aGo cl none cd_38 0 48 ls st H) cl 39 2 3 H st) ∧
  (∀ ls st H, aGo cl none cd_38 0 48 ls st H = aIf (fun p st => aGo cl none cd_38 0 p ls st H) .eq 66 51 st) ∧
  (∀ ls st H, aGo cl none cd_38 0 51 ls st H = aRLoad (fun st => aGo cl none cd_38 0 52 ls st H) ls 0 st) ∧
  (∀ ls st H, aGo cl none cd_38 0 52 ls st H = aGet (fun st => aGo cl none cd_38 0 55 ls st H) 3 3 H st) ∧
  (∀ ls st H, aGo cl none cd_38 0 55 ls st H = aRLoad (fun st => aGo cl none cd_38 0 56 ls st H) ls 0 st) ∧
  (∀ ls st H, aGo cl none cd_38 0 56 ls st H = aGet (fun st => aGo cl none cd_38 0 59 ls st H) 3 2 H st) ∧
  (∀ ls st H, aGo cl none cd_38 0 59 ls st H = aIc (fun p st => aGo cl none cd_38 0 p ls st H) .lt 66 62 st) ∧
  (∀ ls st H, aGo cl none cd_38 0 62 ls st H = aGo cl none cd_38 0 63 ls (.int (-1) :: st) H) ∧
  (∀ ls st H, aGo cl none cd_38 0 63 ls st H = aGo cl none cd_38 0 70 ls st H) ∧
  (∀ ls st H, aGo cl none cd_38 0 66 ls st H = aRLoad (fun st => aGo cl none cd_38 0 67 ls st H) ls 0 st) ∧
  (∀ ls st H, aGo cl none cd_38 0 67 ls st H = aGet (fun st => aGo cl none cd_38 0 70 ls st H) 3 3 H st) ∧
  (∀ ls st H, aGo cl none cd_38 0 70 ls st H = aIret 0 st H) :=
  ⟨fun _ _ _ => (aGo_s rfl).trans rfl, fun _ _ _ => (aGo_s rfl).trans rfl, fun _ _ _ => (aGo_s rfl).trans rfl, fun _ _ _ => (aGo_s rfl).trans rfl, fun _ _ _ => (aGo_s rfl).trans rfl, fun _ _ _ => (aGo_s rfl).trans rfl, fun _ _ _ => (aGo_s rfl).trans rfl, fun _ _ _ => (aGo_s rfl).trans rfl, fun _ _ _ => (aGo_s rfl).trans rfl, fun _ _ _ => (aGo_s rfl).trans rfl, fun _ _ _ => (aGo_s rfl).trans rfl, fun _ _ _ => (aGo_s rfl).trans rfl, fun _ _ _ => (aGo_s rfl).trans rfl, fun _ _ _ => (aGo_s rfl).trans rfl, fun _ _ _ => (aGo_s rfl).trans rfl, fun _ _ _ => (aGo_s rfl).trans rfl, fun _ _ _ => (aGo_s rfl).trans rfl, fun _ _ _ => (aGo_s rfl).trans rfl, fun _ _ _ => (aGo_s rfl).trans rfl, fun _ _ _ => (aGo_s rfl).trans rfl, fun _ _ _ => (aGo_s rfl).trans rfl, fun _ _ _ => (aGo_s rfl).trans rfl, fun _ _ _ => (aGo_s rfl).trans rfl, fun _ _ _ => (aGo_s rfl).trans rfl, fun _ _ _ => (aGo_s rfl).trans rfl, fun _ _ _ => (aGo_s rfl).trans rfl, fun _ _ _ => (aGo_s rfl).trans rfl, fun _ _ _ => (aGo_s rfl).trans rfl, fun _ _ _ => (aGo_s rfl).trans rfl, fun _ _ _ => (aGo_s rfl).trans rfl, fun _ _ _ => (aGo_s rfl).trans rfl, fun _ _ _ => (aGo_s rfl).trans rfl, fun _ _ _ => (aGo_s rfl).trans rfl, fun _ _ _ => (aGo_s rfl).trans rfl, fun _ _ _ => (aGo_s rfl).trans rfl, fun _ _ _ => (aGo_s rfl).trans rfl, fun _ _ _ => (aGo_s rfl).trans rfl⟩
theorem e_38 {d : Nat} {x0 : Nat} {x1 : Nat} {x2 : Int32} {x3 : Int32} {H : aH} : aCall aMt (d + 1) 38 [.ref x0, .ref x1, .int x2, .int x3] H = aGo (aCall aMt d) none cd_38 0 0 [some (.ref x0), some (.ref x1), some (.int x2), some (.int x3)] [] H := (c_0 rfl ⟨rfl, Nat.le_of_ble_eq_true rfl, Nat.le_of_ble_eq_true rfl⟩).trans rfl
theorem s_39 {cl : Nat → List Value → aH → aRs} : (∀ ls st H, aGo cl none cd_39 1 0 ls st H = aILoad (fun st => aGo cl none cd_39 1 1 ls st H) ls 1 st) ∧
  (∀ ls st H, aGo cl none cd_39 1 1 ls st H = aGo cl none cd_39 1 2 ls (.int 5 :: st) H) ∧
  (∀ ls st H, aGo cl none cd_39 1 2 ls st H = aIc (fun p st => aGo cl none cd_39 1 p ls st H) .lt 11 5 st) ∧
  (∀ ls st H, aGo cl none cd_39 1 5 ls st H = aRLoad (fun st => aGo cl none cd_39 1 6 ls st H) ls 0 st) ∧
  (∀ ls st H, aGo cl none cd_39 1 6 ls st H = aILoad (fun st => aGo cl none cd_39 1 7 ls st H) ls 2 st) ∧
  (∀ ls st H, aGo cl none cd_39 1 7 ls st H = aCallV (fun st H => aGo cl none cd_39 1 10 ls st H) cl 40 1 3 H st) ∧
  (∀ ls st H, aGo cl none cd_39 1 10 ls st H = aIret 1 st H) ∧
  (∀ ls st H, aGo cl none cd_39 1 11 ls st H = aRLoad (fun st => aGo cl none cd_39 1 12 ls st H) ls 0 st) ∧
  (∀ ls st H, aGo cl none cd_39 1 12 ls st H = aILoad (fun st => aGo cl none cd_39 1 13 ls st H) ls 1 st) ∧
  (∀ ls st H, aGo cl none cd_39 1 13 ls st H = aGo cl none cd_39 1 14 ls (.int 1 :: st) H) ∧
  (∀ ls st H, aGo cl none cd_39 1 14 ls st H = aBin (fun st => aGo cl none cd_39 1 15 ls st H) (fun x y => x + y) st) ∧
  (∀ ls st H, aGo cl none cd_39 1 15 ls st H = aILoad (fun st => aGo cl none cd_39 1 16 ls st H) ls 2 st) ∧
  (∀ ls st H, aGo cl none cd_39 1 16 ls st H = aCallV (fun st H => aGo cl none cd_39 1 19 ls st H) cl 39 2 3 H st) ∧
  (∀ ls st H, aGo cl none cd_39 1 19 ls st H = aIf (fun p st => aGo cl none cd_39 1 p ls st H) .ne 24 22 st) ∧
  (∀ ls st H, aGo cl none cd_39 1 22 ls st H = aGo cl none cd_39 1 23 ls (.int 0 :: st) H) ∧
  (∀ ls st H, aGo cl none cd_39 1 23 ls st H = aIret 1 st H) ∧
  (∀ ls st H, aGo cl none cd_39 1 25 ls st H = aGet (fun st => aGo cl none cd_39 1 28 ls st H) 3 3 H st) ∧
  (∀ ls st H, aGo cl none cd_39 1 28 ls st H = aRLoad (fun st => aGo cl none cd_39 1 29 ls st H) ls 0 st) ∧
  (∀ ls st H, aGo cl none cd_39 1 29 ls st H = aGet (fun st => aGo cl none cd_39 1 32 ls st H) 3 2 H st) ∧
  (∀ ls st H, aGo cl none cd_39 1 32 ls st H = aIc (fun p st => aGo cl none cd_39 1 p ls st H) .ge 103 35 st) ∧
  (∀ ls st H, aGo cl none cd_39 1 35 ls st H = aRLoad (fun st => aGo cl none cd_39 1 36 ls st H) ls 0 st) ∧
  (∀ ls st H, aGo cl none cd_39 1 36 ls st H = aGet (fun st => aGo cl none cd_39 1 39 ls st H) 3 1 H st) ∧
  (∀ ls st H, aGo cl none cd_39 1 39 ls st H = aRLoad (fun st => aGo cl none cd_39 1 40 ls st H) ls 0 st) ∧
  (∀ ls st H, aGo cl none cd_39 1 40 ls st H = aGet (fun st => aGo cl none cd_39 1 43 ls st H) 3 3 H st) ∧
  (∀ ls st H, aGo cl none cd_39 1 43 ls st H = aBald (fun st => aGo cl none cd_39 1 44 ls st H) H st) ∧
  (∀ ls st H, aGo cl none cd_39 1 44 ls st H = aCallI (fun st H => aGo cl none cd_39 1 47 ls st H) cl 44 1 H st) ∧
  (∀ ls st H, aGo cl none cd_39 1 47 ls st H = aILoad (fun st => aGo cl none cd_39 1 48 ls st H) ls 1 st) ∧
  (∀ ls st H, aGo cl none cd_39 1 48 ls st H = aIc (fun p st => aGo cl none cd_39 1 p ls st H) .ne 103 51 st) ∧
  (∀ ls st H, aGo cl none cd_39 1 51 ls st H = aRLoad (fun st => aGo cl none cd_39 1 52 ls st H) ls 0 st) ∧
  (∀ ls st H, aGo cl none cd_39 1 52 ls st H = aGet (fun st => aGo cl none cd_39 1 55 ls st H) 3 1 H st) ∧
  (∀ ls st H, aGo cl none cd_39 1 55 ls st H = aRLoad (fun st => aGo cl none cd_39 1 56 ls st H) ls 0 st) ∧
  (∀ ls st H, aGo cl none cd_39 1 56 ls st H = aGet (fun st => aGo cl none cd_39 1 59 ls st H) 3 3 H st) ∧
  (∀ ls st H, aGo cl none cd_39 1 59 ls st H = aBald (fun st => aGo cl none cd_39 1 60 ls st H) H st) ∧
  (∀ ls st H, aGo cl none cd_39 1 60 ls st H = aIStore (fun ls st => aGo cl none cd_39 1 61 ls st H) ls 3 st) ∧
  (∀ ls st H, aGo cl none cd_39 1 61 ls st H = aRLoad (fun st => aGo cl none cd_39 1 62 ls st H) ls 0 st) ∧
  (∀ ls st H, aGo cl none cd_39 1 62 ls st H = aDup (fun st => aGo cl none cd_39 1 63 ls st H) st) ∧
  (∀ ls st H, aGo cl none cd_39 1 63 ls st H = aGet (fun st => aGo cl none cd_39 1 66 ls st H) 3 3 H st) ∧
  (∀ ls st H, aGo cl none cd_39 1 66 ls st H = aGo cl none cd_39 1 67 ls (.int 1 :: st) H) ∧
  (∀ ls st H, aGo cl none cd_39 1 67 ls st H = aBin (fun st => aGo cl none cd_39 1 68 ls st H) (fun x y => x + y) st) ∧
  (∀ ls st H, aGo cl none cd_39 1 68 ls st H = aPut (fun st H => aGo cl none cd_39 1 71 ls st H) 3 3 H st) ∧
  (∀ ls st H, aGo cl none cd_39 1 71 ls st H = aRLoad (fun st => aGo cl none cd_39 1 72 ls st H) ls 0 st) ∧
  (∀ ls st H, aGo cl none cd_39 1 72 ls st H = aILoad (fun st => aGo cl none cd_39 1 73 ls st H) ls 1 st) ∧
  (∀ ls st H, aGo cl none cd_39 1 73 ls st H = aGo cl none cd_39 1 74 ls (.int 1 :: st) H) ∧
  (∀ ls st H, aGo cl none cd_39 1 74 ls st H = aBin (fun st => aGo cl none cd_39 1 75 ls st H) (fun x y => x + y) st) ∧
  (∀ ls st H, aGo cl none cd_39 1 75 ls st H = aILoad (fun st => aGo cl none cd_39 1 76 ls st H) ls 2 st) ∧
  (∀ ls st H, aGo cl none cd_39 1 76 ls st H = aCallV (fun st H => aGo cl none cd_39 1 79 ls st H) cl 39 2 3 H st) ∧
  (∀ ls st H, aGo cl none cd_39 1 79 ls st H = aIf (fun p st => aGo cl none cd_39 1 p ls st H) .ne 84 82 st) ∧
  (∀ ls st H, aGo cl none cd_39 1 82 ls st H = aGo cl none cd_39 1 83 ls (.int 0 :: st) H) ∧
  (∀ ls st H, aGo cl none cd_39 1 83 ls st H = aIret 1 st H) ∧
  (∀ ls st H, aGo cl none cd_39 1 84 ls st H = aRLoad (fun st => aGo cl none cd_39 1 85 ls st H) ls 0 st) ∧
  (∀ ls st H, aGo cl none cd_39 1 85 ls st H = aGet (fun st => aGo cl none cd_39 1 88 ls st H) 3 0 H st) ∧
  (∀ ls st H, aGo cl none cd_39 1 88 ls st H = aILoad (fun st => aGo cl none cd_39 1 89 ls st H) ls 3 st) ∧
  (∀ ls st H, aGo cl none cd_39 1 89 ls st H = aGo cl none cd_39 1 90 ls (.int 0 :: st) H) ∧
  (∀ ls st H, aGo cl none cd_39 1 90 ls st H = aCallV (fun st H => aGo cl none cd_39 1 93 ls st H) cl 23 2 1 H st) ∧
  (∀ ls st H, aGo cl none cd_39 1 93 ls st H = aILoad (fun st => aGo cl none cd_39 1 94 ls st H) ls 1 st) ∧
  (∀ ls st H, aGo cl none cd_39 1 94 ls st H = aGo cl none cd_39 1 95 ls (.int 2 :: st) H) ∧
  (∀ ls st H, aGo cl none cd_39 1 95 ls st H = aIc (fun p st => aGo cl none cd_39 1 p ls st H) .ne 100 98 st) ∧
  (∀ ls st H, aGo cl none cd_39 1 98 ls st H = aGo cl none cd_39 1 99 ls (.int 1 :: st) H) ∧
  (∀ ls st H, aGo cl none cd_39 1 99 ls st H = aIret 1 st H) ∧
  (∀ ls st H, aGo cl none cd_39 1 100 ls st H = aGo cl none cd_39 1 24 ls st H) ∧
  (∀ ls st H, aGo cl none cd_39 1 103 ls st H = aGo cl none cd_39 1 104 ls (.int 1 :: st) H) ∧
  (∀ ls st H, aGo cl none cd_39 1 104 ls st H = aIret 1 st H) :=
  ⟨fun _ _ _ => (aGo_s rfl).trans rfl, fun _ _ _ => (aGo_s rfl).trans rfl, fun _ _ _ => (aGo_s rfl).trans rfl, fun _ _ _ => (aGo_s rfl).trans rfl, fun _ _ _ => (aGo_s rfl).trans rfl, fun _ _ _ => (aGo_s rfl).trans rfl, fun _ _ _ => (aGo_s rfl).trans rfl, fun _ _ _ => (aGo_s rfl).trans rfl, fun _ _ _ => (aGo_s rfl).trans rfl, fun _ _ _ => (aGo_s rfl).trans rfl, fun _ _ _ => (aGo_s rfl).trans rfl, fun _ _ _ => (aGo_s rfl).trans rfl, fun _ _ _ => (aGo_s rfl).trans rfl, fun _ _ _ => (aGo_s rfl).trans rfl, fun _ _ _ => (aGo_s rfl).trans rfl, fun _ _ _ => (aGo_s rfl).trans rfl, fun _ _ _ => (aGo_s rfl).trans rfl, fun _ _ _ => (aGo_s rfl).trans rfl, fun _ _ _ => (aGo_s rfl).trans rfl, fun _ _ _ => (aGo_s rfl).trans rfl, fun _ _ _ => (aGo_s rfl).trans rfl, fun _ _ _ => (aGo_s rfl).trans rfl, fun _ _ _ => (aGo_s rfl).trans rfl, fun _ _ _ => (aGo_s rfl).trans rfl, fun _ _ _ => (aGo_s rfl).trans rfl, fun _ _ _ => (aGo_s rfl).trans rfl, fun _ _ _ => (aGo_s rfl).trans rfl, fun _ _ _ => (aGo_s rfl).trans rfl, fun _ _ _ => (aGo_s rfl).trans rfl, fun _ _ _ => (aGo_s rfl).trans rfl, fun _ _ _ => (aGo_s rfl).trans rfl, fun _ _ _ => (aGo_s rfl).trans rfl, fun _ _ _ => (aGo_s rfl).trans rfl, fun _ _ _ => (aGo_s rfl).trans rfl, fun _ _ _ => (aGo_s rfl).trans rfl, fun _ _ _ => (aGo_s rfl).trans rfl, fun _ _ _ => (aGo_s rfl).trans rfl, fun _ _ _ => (aGo_s rfl).trans rfl, fun _ _ _ => (aGo_s rfl).trans rfl, fun _ _ _ => (aGo_s rfl).trans rfl, fun _ _ _ => (aGo_s rfl).trans rfl, fun _ _ _ => (aGo_s rfl).trans rfl, fun _ _ _ => (aGo_s rfl).trans rfl, fun _ _ _ => (aGo_s rfl).trans rfl, fun _ _ _ => (aGo_s rfl).trans rfl, fun _ _ _ => (aGo_s rfl).trans rfl, fun _ _ _ => (aGo_s rfl).trans rfl, fun _ _ _ => (aGo_s rfl).trans rfl, fun _ _ _ => (aGo_s rfl).trans rfl, fun _ _ _ => (aGo_s rfl).trans rfl, fun _ _ _ => (aGo_s rfl).trans rfl, fun _ _ _ => (aGo_s rfl).trans rfl, fun _ _ _ => (aGo_s rfl).trans rfl, fun _ _ _ => (aGo_s rfl).trans rfl, fun _ _ _ => (aGo_s rfl).trans rfl, fun _ _ _ => (aGo_s rfl).trans rfl, fun _ _ _ => (aGo_s rfl).trans rfl, fun _ _ _ => (aGo_s rfl).trans rfl, fun _ _ _ => (aGo_s rfl).trans rfl, fun _ _ _ => (aGo_s rfl).trans rfl, fun _ _ _ => (aGo_s rfl).trans rfl, fun _ _ _ => (aGo_s rfl).trans rfl⟩
theorem s_39_24 {cl : Nat → List Value → aH → aRs} : ∀ ls st H, aGo cl none cd_39 1 24 ls st H = aRLoad (fun st => aGo cl none cd_39 1 25 ls st H) ls 0 st := fun _ _ _ => (aGo_s rfl).trans rfl
theorem e_39 {d : Nat} {x0 : Nat} {x1 : Int32} {x2 : Int32} {H : aH} : aCall aMt (d + 1) 39 [.ref x0, .int x1, .int x2] H = aGo (aCall aMt d) none cd_39 1 0 [some (.ref x0), some (.int x1), some (.int x2), none] [] H := (c_0 rfl ⟨rfl, Nat.le_of_ble_eq_true rfl, Nat.le_of_ble_eq_true rfl⟩).trans rfl
theorem s_40 {cl : Nat → List Value → aH → aRs} : (∀ ls st H, aGo cl none cd_40 1 0 ls st H = aRLoad (fun st => aGo cl none cd_40 1 1 ls st H) ls 0 st) ∧
  (∀ ls st H, aGo cl none cd_40 1 1 ls st H = aGet (fun st => aGo cl none cd_40 1 4 ls st H) 3 3 H st) ∧
  (∀ ls st H, aGo cl none cd_40 1 4 ls st H = aRLoad (fun st => aGo cl none cd_40 1 5 ls st H) ls 0 st) ∧
  (∀ ls st H, aGo cl none cd_40 1 5 ls st H = aGet (fun st => aGo cl none cd_40 1 8 ls st H) 3 2 H st) ∧
  (∀ ls st H, aGo cl none cd_40 1 8 ls st H = aIc (fun p st => aGo cl none cd_40 1 p ls st H) .lt 13 11 st) ∧
  (∀ ls st H, aGo cl none cd_40 1 11 ls st H = aGo cl none cd_40 1 12 ls (.int 0 :: st) H) ∧
  (∀ ls st H, aGo cl none cd_40 1 12 ls st H = aIret 1 st H) ∧
  (∀ ls st H, aGo cl none cd_40 1 13 ls st H = aRLoad (fun st => aGo cl none cd_40 1 14 ls st H) ls 0 st) ∧
  (∀ ls st H, aGo cl none cd_40 1 14 ls st H = aGet (fun st => aGo cl none cd_40 1 17 ls st H) 3 1 H st) ∧
  (∀ ls st H, aGo cl none cd_40 1 17 ls st H = aRLoad (fun st => aGo cl none cd_40 1 18 ls st H) ls 0 st) ∧
  (∀ ls st H, aGo cl none cd_40 1 18 ls st H = aGet (fun st => aGo cl none cd_40 1 21 ls st H) 3 3 H st) ∧
  (∀ ls st H, aGo cl none cd_40 1 21 ls st H = aBald (fun st => aGo cl none cd_40 1 22 ls st H) H st) ∧
  (∀ ls st H, aGo cl none cd_40 1 22 ls st H = aIStore (fun ls st => aGo cl none cd_40 1 23 ls st H) ls 2 st) ∧
  (∀ ls st H, aGo cl none cd_40 1 23 ls st H = aILoad (fun st => aGo cl none cd_40 1 24 ls st H) ls 2 st) ∧
  (∀ ls st H, aGo cl none cd_40 1 24 ls st H = aGo cl none cd_40 1 26 ls (.int 48 :: st) H) ∧
  (∀ ls st H, aGo cl none cd_40 1 26 ls st H = aGo cl none cd_40 1 28 ls (.int 57 :: st) H) ∧
  (∀ ls st H, aGo cl none cd_40 1 28 ls st H = aCallI (fun st H => aGo cl none cd_40 1 31 ls st H) cl 106 3 H st) ∧
  (∀ ls st H, aGo cl none cd_40 1 31 ls st H = aIf (fun p st => aGo cl none cd_40 1 p ls st H) .eq 40 34 st) ∧
  (∀ ls st H, aGo cl none cd_40 1 34 ls st H = aRLoad (fun st => aGo cl none cd_40 1 35 ls st H) ls 0 st) ∧
  (∀ ls st H, aGo cl none cd_40 1 35 ls st H = aCallV (fun st H => aGo cl none cd_40 1 38 ls st H) cl 43 0 3 H st) ∧
  (∀ ls st H, aGo cl none cd_40 1 38 ls st H = aGo cl none cd_40 1 39 ls (.int 1 :: st) H) ∧
  (∀ ls st H, aGo cl none cd_40 1 39 ls st H = aIret 1 st H) ∧
  (∀ ls st H, aGo cl none cd_40 1 40 ls st H = aILoad (fun st => aGo cl none cd_40 1 41 ls st H) ls 2 st) ∧
  (∀ ls st H, aGo cl none cd_40 1 41 ls st H = aIf (fun p st => aGo cl none cd_40 1 p ls st H) .le 56 44 st) ∧
  (∀ ls st H, aGo cl none cd_40 1 44 ls st H = aRLoad (fun st => aGo cl none cd_40 1 45 ls st H) ls 0 st) ∧
  (∀ ls st H, aGo cl none cd_40 1 45 ls st H = aGet (fun st => aGo cl none cd_40 1 48 ls st H) 3 4 H st) ∧
  (∀ ls st H, aGo cl none cd_40 1 48 ls st H = aILoad (fun st => aGo cl none cd_40 1 49 ls st H) ls 2 st) ∧
  (∀ ls st H, aGo cl none cd_40 1 49 ls st H = aUn (fun st => aGo cl none cd_40 1 50 ls st H) (fun x => (x.toUInt32 % 65536).toInt32) st) ∧
  (∀ ls st H, aGo cl none cd_40 1 50 ls st H = aCallV (fun st H => aGo cl none cd_40 1 53 ls st H) cl 221 1 12 H st) ∧
  (∀ ls st H, aGo cl none cd_40 1 53 ls st H = aGo cl none cd_40 1 57 ls st H) ∧
  (∀ ls st H, aGo cl none cd_40 1 56 ls st H = aGo cl none cd_40 1 57 ls (.int (-1) :: st) H) ∧
  (∀ ls st H, aGo cl none cd_40 1 57 ls st H = aIStore (fun ls st => aGo cl none cd_40 1 58 ls st H) ls 3 st) ∧
  (∀ ls st H, aGo cl none cd_40 1 58 ls st H = aILoad (fun st => aGo cl none cd_40 1 59 ls st H) ls 3 st) ∧
  (∀ ls st H, aGo cl none cd_40 1 59 ls st H = aIf (fun p st => aGo cl none cd_40 1 p ls st H) .lt 84 62 st) ∧
  (∀ ls st H, aGo cl none cd_40 1 62 ls st H = aRLoad (fun st => aGo cl none cd_40 1 63 ls st H) ls 0 st) ∧
  (∀ ls st H, aGo cl none cd_40 1 63 ls st H = aDup (fun st => aGo cl none cd_40 1 64 ls st H) st) ∧
  (∀ ls st H, aGo cl none cd_40 1 64 ls st H = aGet (fun st => aGo cl none cd_40 1 67 ls st H) 3 3 H st) ∧
  (∀ ls st H, aGo cl none cd_40 1 67 ls st H = aGo cl none cd_40 1 68 ls (.int 1 :: st) H) ∧
  (∀ ls st H, aGo cl none cd_40 1 68 ls st H = aBin (fun st => aGo cl none cd_40 1 69 ls st H) (fun x y => x + y) st) ∧
  (∀ ls st H, aGo cl none cd_40 1 69 ls st H = aPut (fun st H => aGo cl none cd_40 1 72 ls st H) 3 3 H st) ∧
  (∀ ls st H, aGo cl none cd_40 1 72 ls st H = aRLoad (fun st => aGo cl none cd_40 1 73 ls st H) ls 0 st) ∧
  (∀ ls st H, aGo cl none cd_40 1 73 ls st H = aGet (fun st => aGo cl none cd_40 1 76 ls st H) 3 0 H st) ∧
  (∀ ls st H, aGo cl none cd_40 1 76 ls st H = aGo cl none cd_40 1 78 ls (.int 118 :: st) H) ∧
  (∀ ls st H, aGo cl none cd_40 1 78 ls st H = aILoad (fun st => aGo cl none cd_40 1 79 ls st H) ls 3 st) ∧
  (∀ ls st H, aGo cl none cd_40 1 79 ls st H = aCallV (fun st H => aGo cl none cd_40 1 82 ls st H) cl 23 2 1 H st) ∧
  (∀ ls st H, aGo cl none cd_40 1 82 ls st H = aGo cl none cd_40 1 83 ls (.int 1 :: st) H) ∧
  (∀ ls st H, aGo cl none cd_40 1 83 ls st H = aIret 1 st H) ∧
  (∀ ls st H, aGo cl none cd_40 1 84 ls st H = aILoad (fun st => aGo cl none cd_40 1 85 ls st H) ls 1 st) ∧
  (∀ ls st H, aGo cl none cd_40 1 85 ls st H = aGo cl none cd_40 1 86 ls (.int 5 :: st) H) ∧
  (∀ ls st H, aGo cl none cd_40 1 86 ls st H = aIc (fun p st => aGo cl none cd_40 1 p ls st H) .ge 101 89 st) ∧
  (∀ ls st H, aGo cl none cd_40 1 89 ls st H = aILoad (fun st => aGo cl none cd_40 1 90 ls st H) ls 2 st) ∧
  (∀ ls st H, aGo cl none cd_40 1 90 ls st H = aGo cl none cd_40 1 92 ls (.int 33 :: st) H) ∧
  (∀ ls st H, aGo cl none cd_40 1 92 ls st H = aIc (fun p st => aGo cl none cd_40 1 p ls st H) .eq 103 95 st) ∧
  (∀ ls st H, aGo cl none cd_40 1 95 ls st H = aILoad (fun st => aGo cl none cd_40 1 96 ls st H) ls 2 st) ∧
  (∀ ls st H, aGo cl none cd_40 1 96 ls st H = aGo cl none cd_40 1 98 ls (.int 40 :: st) H) ∧
  (∀ ls st H, aGo cl none cd_40 1 98 ls st H = aIc (fun p st => aGo cl none cd_40 1 p ls st H) .eq 103 101 st) ∧
  (∀ ls st H, aGo cl none cd_40 1 101 ls st H = aGo cl none cd_40 1 102 ls (.int 0 :: st) H) ∧
  (∀ ls st H, aGo cl none cd_40 1 102 ls st H = aIret 1 st H) ∧
  (∀ ls st H, aGo cl none cd_40 1 103 ls st H = aRLoad (fun st => aGo cl none cd_40 1 104 ls st H) ls 0 st) ∧
  (∀ ls st H, aGo cl none cd_40 1 104 ls st H = aDup (fun st => aGo cl none cd_40 1 105 ls st H) st) ∧
  (∀ ls st H, aGo cl none cd_40 1 105 ls st H = aGet (fun st => aGo cl none cd_40 1 108 ls st H) 3 3 H st) ∧
  (∀ ls st H, aGo cl none cd_40 1 108 ls st H = aGo cl none cd_40 1 109 ls (.int 1 :: st) H) ∧
  (∀ ls st H, aGo cl none cd_40 1 109 ls st H = aBin (fun st => aGo cl none cd_40 1 110 ls st H) (fun x y => x + y) st) ∧
  (∀ ls st H, aGo cl none cd_40 1 110 ls st H = aPut (fun st H => aGo cl none cd_40 1 113 ls st H) 3 3 H st) ∧
  (∀ ls st H, aGo cl none cd_40 1 113 ls st H = aILoad (fun st => aGo cl none cd_40 1 114 ls st H) ls 2 st) ∧
  (∀ ls st H, aGo cl none cd_40 1 114 ls st H = aGo cl none cd_40 1 116 ls (.int 33 :: st) H) ∧
  (∀ ls st H, aGo cl none cd_40 1 116 ls st H = aIc (fun p st => aGo cl none cd_40 1 p ls st H) .ne 129 119 st) ∧
  (∀ ls st H, aGo cl none cd_40 1 119 ls st H = aRLoad (fun st => aGo cl none cd_40 1 120 ls st H) ls 0 st) ∧
  (∀ ls st H, aGo cl none cd_40 1 120 ls st H = aILoad (fun st => aGo cl none cd_40 1 121 ls st H) ls 1 st) ∧
  (∀ ls st H, aGo cl none cd_40 1 121 ls st H = aGo cl none cd_40 1 122 ls (.int 1 :: st) H) ∧
  (∀ ls st H, aGo cl none cd_40 1 122 ls st H = aBin (fun st => aGo cl none cd_40 1 123 ls st H) (fun x y => x + y) st) ∧
  (∀ ls st H, aGo cl none cd_40 1 123 ls st H = aCallV (fun st H => aGo cl none cd_40 1 126 ls st H) cl 41 1 3 H st) ∧
  (∀ ls st H, aGo cl none cd_40 1 126 ls st H = aGo cl none cd_40 1 136 ls st H) ∧
  (∀ ls st H, aGo cl none cd_40 1 129 ls st H = aRLoad (fun st => aGo cl none cd_40 1 130 ls st H) ls 0 st) ∧
  (∀ ls st H, aGo cl none cd_40 1 130 ls st H = aILoad (fun st => aGo cl none cd_40 1 131 ls st H) ls 1 st) ∧
  (∀ ls st H, aGo cl none cd_40 1 131 ls st H = aGo cl none cd_40 1 132 ls (.int 1 :: st) H) ∧
  (∀ ls st H, aGo cl none cd_40 1 132 ls st H = aBin (fun st => aGo cl none cd_40 1 133 ls st H) (fun x y => x + y) st) ∧
  (∀ ls st H, aGo cl none cd_40 1 133 ls st H = aCallV (fun st H => aGo cl none cd_40 1 136 ls st H) cl 42 1 3 H st) ∧
  (∀ ls st H, aGo cl none cd_40 1 136 ls st H = aIret 1 st H) :=
  ⟨fun _ _ _ => (aGo_s rfl).trans rfl, fun _ _ _ => (aGo_s rfl).trans rfl, fun _ _ _ => (aGo_s rfl).trans rfl, fun _ _ _ => (aGo_s rfl).trans rfl, fun _ _ _ => (aGo_s rfl).trans rfl, fun _ _ _ => (aGo_s rfl).trans rfl, fun _ _ _ => (aGo_s rfl).trans rfl, fun _ _ _ => (aGo_s rfl).trans rfl, fun _ _ _ => (aGo_s rfl).trans rfl, fun _ _ _ => (aGo_s rfl).trans rfl, fun _ _ _ => (aGo_s rfl).trans rfl, fun _ _ _ => (aGo_s rfl).trans rfl, fun _ _ _ => (aGo_s rfl).trans rfl, fun _ _ _ => (aGo_s rfl).trans rfl, fun _ _ _ => (aGo_s rfl).trans rfl, fun _ _ _ => (aGo_s rfl).trans rfl, fun _ _ _ => (aGo_s rfl).trans rfl, fun _ _ _ => (aGo_s rfl).trans rfl, fun _ _ _ => (aGo_s rfl).trans rfl, fun _ _ _ => (aGo_s rfl).trans rfl, fun _ _ _ => (aGo_s rfl).trans rfl, fun _ _ _ => (aGo_s rfl).trans rfl, fun _ _ _ => (aGo_s rfl).trans rfl, fun _ _ _ => (aGo_s rfl).trans rfl, fun _ _ _ => (aGo_s rfl).trans rfl, fun _ _ _ => (aGo_s rfl).trans rfl, fun _ _ _ => (aGo_s rfl).trans rfl, fun _ _ _ => (aGo_s rfl).trans rfl, fun _ _ _ => (aGo_s rfl).trans rfl, fun _ _ _ => (aGo_s rfl).trans rfl, fun _ _ _ => (aGo_s rfl).trans rfl, fun _ _ _ => (aGo_s rfl).trans rfl, fun _ _ _ => (aGo_s rfl).trans rfl, fun _ _ _ => (aGo_s rfl).trans rfl, fun _ _ _ => (aGo_s rfl).trans rfl, fun _ _ _ => (aGo_s rfl).trans rfl, fun _ _ _ => (aGo_s rfl).trans rfl, fun _ _ _ => (aGo_s rfl).trans rfl, fun _ _ _ => (aGo_s rfl).trans rfl, fun _ _ _ => (aGo_s rfl).trans rfl, fun _ _ _ => (aGo_s rfl).trans rfl, fun _ _ _ => (aGo_s rfl).trans rfl, fun _ _ _ => (aGo_s rfl).trans rfl, fun _ _ _ => (aGo_s rfl).trans rfl, fun _ _ _ => (aGo_s rfl).trans rfl, fun _ _ _ => (aGo_s rfl).trans rfl, fun _ _ _ => (aGo_s rfl).trans rfl, fun _ _ _ => (aGo_s rfl).trans rfl, fun _ _ _ => (aGo_s rfl).trans rfl, fun _ _ _ => (aGo_s rfl).trans rfl, fun _ _ _ => (aGo_s rfl).trans rfl, fun _ _ _ => (aGo_s rfl).trans rfl, fun _ _ _ => (aGo_s rfl).trans rfl, fun _ _ _ => (aGo_s rfl).trans rfl, fun _ _ _ => (aGo_s rfl).trans rfl, fun _ _ _ => (aGo_s rfl).trans rfl, fun _ _ _ => (aGo_s rfl).trans rfl, fun _ _ _ => (aGo_s rfl).trans rfl, fun _ _ _ => (aGo_s rfl).trans rfl, fun _ _ _ => (aGo_s rfl).trans rfl, fun _ _ _ => (aGo_s rfl).trans rfl, fun _ _ _ => (aGo_s rfl).trans rfl, fun _ _ _ => (aGo_s rfl).trans rfl, fun _ _ _ => (aGo_s rfl).trans rfl, fun _ _ _ => (aGo_s rfl).trans rfl, fun _ _ _ => (aGo_s rfl).trans rfl, fun _ _ _ => (aGo_s rfl).trans rfl, fun _ _ _ => (aGo_s rfl).trans rfl, fun _ _ _ => (aGo_s rfl).trans rfl, fun _ _ _ => (aGo_s rfl).trans rfl, fun _ _ _ => (aGo_s rfl).trans rfl, fun _ _ _ => (aGo_s rfl).trans rfl, fun _ _ _ => (aGo_s rfl).trans rfl, fun _ _ _ => (aGo_s rfl).trans rfl, fun _ _ _ => (aGo_s rfl).trans rfl, fun _ _ _ => (aGo_s rfl).trans rfl, fun _ _ _ => (aGo_s rfl).trans rfl, fun _ _ _ => (aGo_s rfl).trans rfl, fun _ _ _ => (aGo_s rfl).trans rfl⟩
theorem e_40 {d : Nat} {x0 : Nat} {x1 : Int32} {H : aH} : aCall aMt (d + 1) 40 [.ref x0, .int x1] H = aGo (aCall aMt d) none cd_40 1 0 [some (.ref x0), some (.int x1), none, none] [] H := (c_0 rfl ⟨rfl, Nat.le_of_ble_eq_true rfl, Nat.le_of_ble_eq_true rfl⟩).trans rfl
theorem s_41 {cl : Nat → List Value → aH → aRs} : (∀ ls st H, aGo cl none cd_41 1 0 ls st H = aRLoad (fun st => aGo cl none cd_41 1 1 ls st H) ls 0 st) ∧
  (∀ ls st H, aGo cl none cd_41 1 1 ls st H = aILoad (fun st => aGo cl none cd_41 1 2 ls st H) ls 1 st) ∧
  (∀ ls st H, aGo cl none cd_41 1 2 ls st H = aCallV (fun st H => aGo cl none cd_41 1 5 ls st H) cl 40 1 3 H st) ∧
  (∀ ls st H, aGo cl none cd_41 1 5 ls st H = aIf (fun p st => aGo cl none cd_41 1 p ls st H) .ne 10 8 st) ∧
  (∀ ls st H, aGo cl none cd_41 1 8 ls st H = aGo cl none cd_41 1 9 ls (.int 0 :: st) H) ∧
  (∀ ls st H, aGo cl none cd_41 1 9 ls st H = aIret 1 st H) ∧
  (∀ ls st H, aGo cl none cd_41 1 10 ls st H = aRLoad (fun st => aGo cl none cd_41 1 11 ls st H) ls 0 st) ∧
  (∀ ls st H, aGo cl none cd_41 1 11 ls st H = aGet (fun st => aGo cl none cd_41 1 14 ls st H) 3 0 H st) ∧
  (∀ ls st H, aGo cl none cd_41 1 14 ls st H = aGo cl none cd_41 1 16 ls (.int 33 :: st) H) ∧
  (∀ ls st H, aGo cl none cd_41 1 16 ls st H = aGo cl none cd_41 1 17 ls (.int 0 :: st) H) ∧
  (∀ ls st H, aGo cl none cd_41 1 17 ls st H = aCallV (fun st H => aGo cl none cd_41 1 20 ls st H) cl 23 2 1 H st) ∧
  (∀ ls st H, aGo cl none cd_41 1 20 ls st H = aGo cl none cd_41 1 21 ls (.int 1 :: st) H) ∧
  (∀ ls st H, aGo cl none cd_41 1 21 ls st H = aIret 1 st H) :=
  ⟨fun _ _ _ => (aGo_s rfl).trans rfl, fun _ _ _ => (aGo_s rfl).trans rfl, fun _ _ _ => (aGo_s rfl).trans rfl, fun _ _ _ => (aGo_s rfl).trans rfl, fun _ _ _ => (aGo_s rfl).trans rfl, fun _ _ _ => (aGo_s rfl).trans rfl, fun _ _ _ => (aGo_s rfl).trans rfl, fun _ _ _ => (aGo_s rfl).trans rfl, fun _ _ _ => (aGo_s rfl).trans rfl, fun _ _ _ => (aGo_s rfl).trans rfl, fun _ _ _ => (aGo_s rfl).trans rfl, fun _ _ _ => (aGo_s rfl).trans rfl, fun _ _ _ => (aGo_s rfl).trans rfl⟩
theorem e_41 {d : Nat} {x0 : Nat} {x1 : Int32} {H : aH} : aCall aMt (d + 1) 41 [.ref x0, .int x1] H = aGo (aCall aMt d) none cd_41 1 0 [some (.ref x0), some (.int x1)] [] H := (c_0 rfl ⟨rfl, Nat.le_of_ble_eq_true rfl, Nat.le_of_ble_eq_true rfl⟩).trans rfl
theorem s_42 {cl : Nat → List Value → aH → aRs} : (∀ ls st H, aGo cl none cd_42 1 0 ls st H = aRLoad (fun st => aGo cl none cd_42 1 1 ls st H) ls 0 st) ∧
  (∀ ls st H, aGo cl none cd_42 1 1 ls st H = aGo cl none cd_42 1 2 ls (.int 0 :: st) H) ∧
  (∀ ls st H, aGo cl none cd_42 1 2 ls st H = aILoad (fun st => aGo cl none cd_42 1 3 ls st H) ls 1 st) ∧
  (∀ ls st H, aGo cl none cd_42 1 3 ls st H = aCallV (fun st H => aGo cl none cd_42 1 6 ls st H) cl 39 2 3 H st) ∧
  (∀ ls st H, aGo cl none cd_42 1 6 ls st H = aIf (fun p st => aGo cl none cd_42 1 p ls st H) .eq 34 9 st) ∧
  (∀ ls st H, aGo cl none cd_42 1 9 ls st H = aRLoad (fun st => aGo cl none cd_42 1 10 ls st H) ls 0 st) ∧
  (∀ ls st H, aGo cl none cd_42 1 10 ls st H = aGet (fun st => aGo cl none cd_42 1 13 ls st H) 3 3 H st) ∧
  (∀ ls st H, aGo cl none cd_42 1 13 ls st H = aRLoad (fun st => aGo cl none cd_42 1 14 ls st H) ls 0 st) ∧
  (∀ ls st H, aGo cl none cd_42 1 14 ls st H = aGet (fun st => aGo cl none cd_42 1 17 ls st H) 3 2 H st) ∧
  (∀ ls st H, aGo cl none cd_42 1 17 ls st H = aIc (fun p st => aGo cl none cd_42 1 p ls st H) .ge 34 20 st) ∧
  (∀ ls st H, aGo cl none cd_42 1 20 ls st H = aRLoad (fun st => aGo cl none cd_42 1 21 ls st H) ls 0 st) ∧
  (∀ ls st H, aGo cl none cd_42 1 21 ls st H = aGet (fun st => aGo cl none cd_42 1 24 ls st H) 3 1 H st) ∧
  (∀ ls st H, aGo cl none cd_42 1 24 ls st H = aRLoad (fun st => aGo cl none cd_42 1 25 ls st H) ls 0 st) ∧
  (∀ ls st H, aGo cl none cd_42 1 25 ls st H = aGet (fun st => aGo cl none cd_42 1 28 ls st H) 3 3 H st) ∧
  (∀ ls st H, aGo cl none cd_42 1 28 ls st H = aBald (fun st => aGo cl none cd_42 1 29 ls st H) H st) ∧
  (∀ ls st H, aGo cl none cd_42 1 29 ls st H = aGo cl none cd_42 1 31 ls (.int 41 :: st) H) ∧
  (∀ ls st H, aGo cl none cd_42 1 31 ls st H = aIc (fun p st => aGo cl none cd_42 1 p ls st H) .eq 36 34 st) ∧
  (∀ ls st H, aGo cl none cd_42 1 34 ls st H = aGo cl none cd_42 1 35 ls (.int 0 :: st) H) ∧
  (∀ ls st H, aGo cl none cd_42 1 35 ls st H = aIret 1 st H) ∧
  (∀ ls st H, aGo cl none cd_42 1 36 ls st H = aRLoad (fun st => aGo cl none cd_42 1 37 ls st H) ls 0 st) ∧
  (∀ ls st H, aGo cl none cd_42 1 37 ls st H = aDup (fun st => aGo cl none cd_42 1 38 ls st H) st) ∧
  (∀ ls st H, aGo cl none cd_42 1 38 ls st H = aGet (fun st => aGo cl none cd_42 1 41 ls st H) 3 3 H st) ∧
  (∀ ls st H, aGo cl none cd_42 1 41 ls st H = aGo cl none cd_42 1 42 ls (.int 1 :: st) H) ∧
  (∀ ls st H, aGo cl none cd_42 1 42 ls st H = aBin (fun st => aGo cl none cd_42 1 43 ls st H) (fun x y => x + y) st) ∧
  (∀ ls st H, aGo cl none cd_42 1 43 ls st H = aPut (fun st H => aGo cl none cd_42 1 46 ls st H) 3 3 H st) ∧
  (∀ ls st H, aGo cl none cd_42 1 46 ls st H = aGo cl none cd_42 1 47 ls (.int 1 :: st) H) ∧
  (∀ ls st H, aGo cl none cd_42 1 47 ls st H = aIret 1 st H) :=
  ⟨fun _ _ _ => (aGo_s rfl).trans rfl, fun _ _ _ => (aGo_s rfl).trans rfl, fun _ _ _ => (aGo_s rfl).trans rfl, fun _ _ _ => (aGo_s rfl).trans rfl, fun _ _ _ => (aGo_s rfl).trans rfl, fun _ _ _ => (aGo_s rfl).trans rfl, fun _ _ _ => (aGo_s rfl).trans rfl, fun _ _ _ => (aGo_s rfl).trans rfl, fun _ _ _ => (aGo_s rfl).trans rfl, fun _ _ _ => (aGo_s rfl).trans rfl, fun _ _ _ => (aGo_s rfl).trans rfl, fun _ _ _ => (aGo_s rfl).trans rfl, fun _ _ _ => (aGo_s rfl).trans rfl, fun _ _ _ => (aGo_s rfl).trans rfl, fun _ _ _ => (aGo_s rfl).trans rfl, fun _ _ _ => (aGo_s rfl).trans rfl, fun _ _ _ => (aGo_s rfl).trans rfl, fun _ _ _ => (aGo_s rfl).trans rfl, fun _ _ _ => (aGo_s rfl).trans rfl, fun _ _ _ => (aGo_s rfl).trans rfl, fun _ _ _ => (aGo_s rfl).trans rfl, fun _ _ _ => (aGo_s rfl).trans rfl, fun _ _ _ => (aGo_s rfl).trans rfl, fun _ _ _ => (aGo_s rfl).trans rfl, fun _ _ _ => (aGo_s rfl).trans rfl, fun _ _ _ => (aGo_s rfl).trans rfl, fun _ _ _ => (aGo_s rfl).trans rfl⟩
theorem e_42 {d : Nat} {x0 : Nat} {x1 : Int32} {H : aH} : aCall aMt (d + 1) 42 [.ref x0, .int x1] H = aGo (aCall aMt d) none cd_42 1 0 [some (.ref x0), some (.int x1)] [] H := (c_0 rfl ⟨rfl, Nat.le_of_ble_eq_true rfl, Nat.le_of_ble_eq_true rfl⟩).trans rfl
theorem s_43 {cl : Nat → List Value → aH → aRs} : (∀ ls st H, aGo cl none cd_43 3 0 ls st H = aGo cl none cd_43 3 1 ls (.int 0 :: st) H) ∧
  (∀ ls st H, aGo cl none cd_43 3 1 ls st H = aIStore (fun ls st => aGo cl none cd_43 3 2 ls st H) ls 1 st) ∧
  (∀ ls st H, aGo cl none cd_43 3 2 ls st H = aGo cl none cd_43 3 3 ls (.int 0 :: st) H) ∧
  (∀ ls st H, aGo cl none cd_43 3 3 ls st H = aIStore (fun ls st => aGo cl none cd_43 3 4 ls st H) ls 2 st) ∧
  (∀ ls st H, aGo cl none cd_43 3 5 ls st H = aGo cl none cd_43 3 6 ls (.int 4 :: st) H) ∧
  (∀ ls st H, aGo cl none cd_43 3 6 ls st H = aIc (fun p st => aGo cl none cd_43 3 p ls st H) .ge 73 9 st) ∧
  (∀ ls st H, aGo cl none cd_43 3 9 ls st H = aRLoad (fun st => aGo cl none cd_43 3 10 ls st H) ls 0 st) ∧
  (∀ ls st H, aGo cl none cd_43 3 10 ls st H = aGet (fun st => aGo cl none cd_43 3 13 ls st H) 3 3 H st) ∧
  (∀ ls st H, aGo cl none cd_43 3 13 ls st H = aRLoad (fun st => aGo cl none cd_43 3 14 ls st H) ls 0 st) ∧
  (∀ ls st H, aGo cl none cd_43 3 14 ls st H = aGet (fun st => aGo cl none cd_43 3 17 ls st H) 3 2 H st) ∧
  (∀ ls st H, aGo cl none cd_43 3 17 ls st H = aIc (fun p st => aGo cl none cd_43 3 p ls st H) .ge 73 20 st) ∧
  (∀ ls st H, aGo cl none cd_43 3 20 ls st H = aRLoad (fun st => aGo cl none cd_43 3 21 ls st H) ls 0 st) ∧
  (∀ ls st H, aGo cl none cd_43 3 21 ls st H = aGet (fun st => aGo cl none cd_43 3 24 ls st H) 3 1 H st) ∧
  (∀ ls st H, aGo cl none cd_43 3 24 ls st H = aRLoad (fun st => aGo cl none cd_43 3 25 ls st H) ls 0 st) ∧
  (∀ ls st H, aGo cl none cd_43 3 25 ls st H = aGet (fun st => aGo cl none cd_43 3 28 ls st H) 3 3 H st) ∧
  (∀ ls st H, aGo cl none cd_43 3 28 ls st H = aBald (fun st => aGo cl none cd_43 3 29 ls st H) H st) ∧
  (∀ ls st H, aGo cl none cd_43 3 29 ls st H = aGo cl none cd_43 3 31 ls (.int 48 :: st) H) ∧
  (∀ ls st H, aGo cl none cd_43 3 31 ls st H = aGo cl none cd_43 3 33 ls (.int 57 :: st) H) ∧
  (∀ ls st H, aGo cl none cd_43 3 33 ls st H = aCallI (fun st H => aGo cl none cd_43 3 36 ls st H) cl 106 3 H st) ∧
  (∀ ls st H, aGo cl none cd_43 3 36 ls st H = aIf (fun p st => aGo cl none cd_43 3 p ls st H) .eq 73 39 st) ∧
  (∀ ls st H, aGo cl none cd_43 3 39 ls st H = aGo cl none cd_43 3 41 ls (.int 10 :: st) H) ∧
  (∀ ls st H, aGo cl none cd_43 3 41 ls st H = aILoad (fun st => aGo cl none cd_43 3 42 ls st H) ls 1 st) ∧
  (∀ ls st H, aGo cl none cd_43 3 42 ls st H = aBin (fun st => aGo cl none cd_43 3 43 ls st H) (fun x y => x * y) st) ∧
  (∀ ls st H, aGo cl none cd_43 3 43 ls st H = aRLoad (fun st => aGo cl none cd_43 3 44 ls st H) ls 0 st) ∧
  (∀ ls st H, aGo cl none cd_43 3 44 ls st H = aGet (fun st => aGo cl none cd_43 3 47 ls st H) 3 1 H st) ∧
  (∀ ls st H, aGo cl none cd_43 3 47 ls st H = aRLoad (fun st => aGo cl none cd_43 3 48 ls st H) ls 0 st) ∧
  (∀ ls st H, aGo cl none cd_43 3 48 ls st H = aGet (fun st => aGo cl none cd_43 3 51 ls st H) 3 3 H st) ∧
  (∀ ls st H, aGo cl none cd_43 3 51 ls st H = aBald (fun st => aGo cl none cd_43 3 52 ls st H) H st) ∧
  (∀ ls st H, aGo cl none cd_43 3 52 ls st H = aGo cl none cd_43 3 54 ls (.int 48 :: st) H) ∧
  (∀ ls st H, aGo cl none cd_43 3 54 ls st H = aBin (fun st => aGo cl none cd_43 3 55 ls st H) (fun x y => x - y) st) ∧
  (∀ ls st H, aGo cl none cd_43 3 55 ls st H = aBin (fun st => aGo cl none cd_43 3 56 ls st H) (fun x y => x + y) st) ∧
  (∀ ls st H, aGo cl none cd_43 3 56 ls st H = aIStore (fun ls st => aGo cl none cd_43 3 57 ls st H) ls 1 st) ∧
  (∀ ls st H, aGo cl none cd_43 3 57 ls st H = aRLoad (fun st => aGo cl none cd_43 3 58 ls st H) ls 0 st) ∧
  (∀ ls st H, aGo cl none cd_43 3 58 ls st H = aDup (fun st => aGo cl none cd_43 3 59 ls st H) st) ∧
  (∀ ls st H, aGo cl none cd_43 3 59 ls st H = aGet (fun st => aGo cl none cd_43 3 62 ls st H) 3 3 H st) ∧
  (∀ ls st H, aGo cl none cd_43 3 62 ls st H = aGo cl none cd_43 3 63 ls (.int 1 :: st) H) ∧
  (∀ ls st H, aGo cl none cd_43 3 63 ls st H = aBin (fun st => aGo cl none cd_43 3 64 ls st H) (fun x y => x + y) st) ∧
  (∀ ls st H, aGo cl none cd_43 3 64 ls st H = aPut (fun st H => aGo cl none cd_43 3 67 ls st H) 3 3 H st) ∧
  (∀ ls st H, aGo cl none cd_43 3 67 ls st H = aInc (fun ls => aGo cl none cd_43 3 70 ls st H) ls 2 1) ∧
  (∀ ls st H, aGo cl none cd_43 3 70 ls st H = aGo cl none cd_43 3 4 ls st H) ∧
  (∀ ls st H, aGo cl none cd_43 3 73 ls st H = aRLoad (fun st => aGo cl none cd_43 3 74 ls st H) ls 0 st) ∧
  (∀ ls st H, aGo cl none cd_43 3 74 ls st H = aGet (fun st => aGo cl none cd_43 3 77 ls st H) 3 0 H st) ∧
  (∀ ls st H, aGo cl none cd_43 3 77 ls st H = aGo cl none cd_43 3 79 ls (.int 110 :: st) H) ∧
  (∀ ls st H, aGo cl none cd_43 3 79 ls st H = aILoad (fun st => aGo cl none cd_43 3 80 ls st H) ls 1 st) ∧
  (∀ ls st H, aGo cl none cd_43 3 80 ls st H = aCallV (fun st H => aGo cl none cd_43 3 83 ls st H) cl 23 2 1 H st) ∧
  (∀ ls st H, aGo cl none cd_43 3 83 ls st H = aVret 3 st H) :=
  ⟨fun _ _ _ => (aGo_s rfl).trans rfl, fun _ _ _ => (aGo_s rfl).trans rfl, fun _ _ _ => (aGo_s rfl).trans rfl, fun _ _ _ => (aGo_s rfl).trans rfl, fun _ _ _ => (aGo_s rfl).trans rfl, fun _ _ _ => (aGo_s rfl).trans rfl, fun _ _ _ => (aGo_s rfl).trans rfl, fun _ _ _ => (aGo_s rfl).trans rfl, fun _ _ _ => (aGo_s rfl).trans rfl, fun _ _ _ => (aGo_s rfl).trans rfl, fun _ _ _ => (aGo_s rfl).trans rfl, fun _ _ _ => (aGo_s rfl).trans rfl, fun _ _ _ => (aGo_s rfl).trans rfl, fun _ _ _ => (aGo_s rfl).trans rfl, fun _ _ _ => (aGo_s rfl).trans rfl, fun _ _ _ => (aGo_s rfl).trans rfl, fun _ _ _ => (aGo_s rfl).trans rfl, fun _ _ _ => (aGo_s rfl).trans rfl, fun _ _ _ => (aGo_s rfl).trans rfl, fun _ _ _ => (aGo_s rfl).trans rfl, fun _ _ _ => (aGo_s rfl).trans rfl, fun _ _ _ => (aGo_s rfl).trans rfl, fun _ _ _ => (aGo_s rfl).trans rfl, fun _ _ _ => (aGo_s rfl).trans rfl, fun _ _ _ => (aGo_s rfl).trans rfl, fun _ _ _ => (aGo_s rfl).trans rfl, fun _ _ _ => (aGo_s rfl).trans rfl, fun _ _ _ => (aGo_s rfl).trans rfl, fun _ _ _ => (aGo_s rfl).trans rfl, fun _ _ _ => (aGo_s rfl).trans rfl, fun _ _ _ => (aGo_s rfl).trans rfl, fun _ _ _ => (aGo_s rfl).trans rfl, fun _ _ _ => (aGo_s rfl).trans rfl, fun _ _ _ => (aGo_s rfl).trans rfl, fun _ _ _ => (aGo_s rfl).trans rfl, fun _ _ _ => (aGo_s rfl).trans rfl, fun _ _ _ => (aGo_s rfl).trans rfl, fun _ _ _ => (aGo_s rfl).trans rfl, fun _ _ _ => (aGo_s rfl).trans rfl, fun _ _ _ => (aGo_s rfl).trans rfl, fun _ _ _ => (aGo_s rfl).trans rfl, fun _ _ _ => (aGo_s rfl).trans rfl, fun _ _ _ => (aGo_s rfl).trans rfl, fun _ _ _ => (aGo_s rfl).trans rfl, fun _ _ _ => (aGo_s rfl).trans rfl, fun _ _ _ => (aGo_s rfl).trans rfl⟩
theorem s_43_4 {cl : Nat → List Value → aH → aRs} : ∀ ls st H, aGo cl none cd_43 3 4 ls st H = aILoad (fun st => aGo cl none cd_43 3 5 ls st H) ls 2 st := fun _ _ _ => (aGo_s rfl).trans rfl
theorem e_43 {d : Nat} {x0 : Nat} {H : aH} : aCall aMt (d + 1) 43 [.ref x0] H = aGo (aCall aMt d) none cd_43 3 0 [some (.ref x0), none, none] [] H := (c_0 rfl ⟨rfl, Nat.le_of_ble_eq_true rfl, Nat.le_of_ble_eq_true rfl⟩).trans rfl
theorem s_44 {cl : Nat → List Value → aH → aRs} : (∀ ls st H, aGo cl none cd_44 0 0 ls st H = aILoad (fun st => aGo cl none cd_44 0 1 ls st H) ls 0 st) ∧
  (∀ ls st H, aGo cl none cd_44 0 1 ls st H = aSwS (fun p st => aGo cl none cd_44 0 p ls st H) [(37, 100), (38, 94), (42, 100), (43, 98), (45, 98), (47, 100), (60, 96), (61, 96), (62, 96), (124, 92)] 102 st) ∧
  (∀ ls st H, aGo cl none cd_44 0 92 ls st H = aGo cl none cd_44 0 93 ls (.int 0 :: st) H) ∧
  (∀ ls st H, aGo cl none cd_44 0 93 ls st H = aIret 0 st H) ∧
  (∀ ls st H, aGo cl none cd_44 0 94 ls st H = aGo cl none cd_44 0 95 ls (.int 1 :: st) H) ∧
  (∀ ls st H, aGo cl none cd_44 0 95 ls st H = aIret 0 st H) ∧
  (∀ ls st H, aGo cl none cd_44 0 96 ls st H = aGo cl none cd_44 0 97 ls (.int 2 :: st) H) ∧
  (∀ ls st H, aGo cl none cd_44 0 97 ls st H = aIret 0 st H) ∧
  (∀ ls st H, aGo cl none cd_44 0 98 ls st H = aGo cl none cd_44 0 99 ls (.int 3 :: st) H) ∧
  (∀ ls st H, aGo cl none cd_44 0 99 ls st H = aIret 0 st H) ∧
  (∀ ls st H, aGo cl none cd_44 0 100 ls st H = aGo cl none cd_44 0 101 ls (.int 4 :: st) H) ∧
  (∀ ls st H, aGo cl none cd_44 0 101 ls st H = aIret 0 st H) ∧
  (∀ ls st H, aGo cl none cd_44 0 102 ls st H = aGo cl none cd_44 0 103 ls (.int (-1) :: st) H) ∧
  (∀ ls st H, aGo cl none cd_44 0 103 ls st H = aIret 0 st H) :=
  ⟨fun _ _ _ => (aGo_s rfl).trans rfl, fun _ _ _ => (aGo_s rfl).trans rfl, fun _ _ _ => (aGo_s rfl).trans rfl, fun _ _ _ => (aGo_s rfl).trans rfl, fun _ _ _ => (aGo_s rfl).trans rfl, fun _ _ _ => (aGo_s rfl).trans rfl, fun _ _ _ => (aGo_s rfl).trans rfl, fun _ _ _ => (aGo_s rfl).trans rfl, fun _ _ _ => (aGo_s rfl).trans rfl, fun _ _ _ => (aGo_s rfl).trans rfl, fun _ _ _ => (aGo_s rfl).trans rfl, fun _ _ _ => (aGo_s rfl).trans rfl, fun _ _ _ => (aGo_s rfl).trans rfl, fun _ _ _ => (aGo_s rfl).trans rfl⟩
theorem e_44 {d : Nat} {x0 : Int32} {H : aH} : aCall aMt (d + 1) 44 [.int x0] H = aGo (aCall aMt d) none cd_44 0 0 [some (.int x0)] [] H := (c_0 rfl ⟨rfl, Nat.le_of_ble_eq_true rfl, Nat.le_of_ble_eq_true rfl⟩).trans rfl
theorem s_46 {cl : Nat → List Value → aH → aRs} : (∀ ls st H, aGo cl none cd_46 1 0 ls st H = aRLoad (fun st => aGo cl none cd_46 1 1 ls st H) ls 0 st) ∧
  (∀ ls st H, aGo cl none cd_46 1 1 ls st H = aGet (fun st => aGo cl none cd_46 1 4 ls st H) 4 1 H st) ∧
  (∀ ls st H, aGo cl none cd_46 1 4 ls st H = aIf (fun p st => aGo cl none cd_46 1 p ls st H) .ne 11 7 st) ∧
  (∀ ls st H, aGo cl none cd_46 1 7 ls st H = aGo cl none cd_46 1 8 ls (.int 1 :: st) H) ∧
  (∀ ls st H, aGo cl none cd_46 1 8 ls st H = aGo cl none cd_46 1 12 ls st H) ∧
  (∀ ls st H, aGo cl none cd_46 1 11 ls st H = aGo cl none cd_46 1 12 ls (.int 0 :: st) H) ∧
  (∀ ls st H, aGo cl none cd_46 1 12 ls st H = aIret 1 st H) :=
  ⟨fun _ _ _ => (aGo_s rfl).trans rfl, fun _ _ _ => (aGo_s rfl).trans rfl, fun _ _ _ => (aGo_s rfl).trans rfl, fun _ _ _ => (aGo_s rfl).trans rfl, fun _ _ _ => (aGo_s rfl).trans rfl, fun _ _ _ => (aGo_s rfl).trans rfl, fun _ _ _ => (aGo_s rfl).trans rfl⟩
theorem e_46 {d : Nat} {x0 : Nat} {H : aH} : aCall aMt (d + 1) 46 [.ref x0] H = aGo (aCall aMt d) none cd_46 1 0 [some (.ref x0)] [] H := (c_0 rfl ⟨rfl, Nat.le_of_ble_eq_true rfl, Nat.le_of_ble_eq_true rfl⟩).trans rfl
theorem s_47 {cl : Nat → List Value → aH → aRs} : (∀ ls st H, aGo cl none cd_47 3 0 ls st H = aRLoad (fun st => aGo cl none cd_47 3 1 ls st H) ls 0 st) ∧
  (∀ ls st H, aGo cl none cd_47 3 1 ls st H = aILoad (fun st => aGo cl none cd_47 3 2 ls st H) ls 1 st) ∧
  (∀ ls st H, aGo cl none cd_47 3 2 ls st H = aPut (fun st H => aGo cl none cd_47 3 5 ls st H) 4 1 H st) ∧
  (∀ ls st H, aGo cl none cd_47 3 5 ls st H = aRLoad (fun st => aGo cl none cd_47 3 6 ls st H) ls 0 st) ∧
  (∀ ls st H, aGo cl none cd_47 3 6 ls st H = aILoad (fun st => aGo cl none cd_47 3 7 ls st H) ls 2 st) ∧
  (∀ ls st H, aGo cl none cd_47 3 7 ls st H = aPut (fun st H => aGo cl none cd_47 3 10 ls st H) 4 2 H st) ∧
  (∀ ls st H, aGo cl none cd_47 3 10 ls st H = aRLoad (fun st => aGo cl none cd_47 3 11 ls st H) ls 0 st) ∧
  (∀ ls st H, aGo cl none cd_47 3 11 ls st H = aGet (fun st => aGo cl none cd_47 3 14 ls st H) 4 0 H st) ∧
  (∀ ls st H, aGo cl none cd_47 3 14 ls st H = aGo cl none cd_47 3 15 ls (.int 0 :: st) H) ∧
  (∀ ls st H, aGo cl none cd_47 3 15 ls st H = aCallI (fun st H => aGo cl none cd_47 3 18 ls st H) cl 220 2 H st) ∧
  (∀ ls st H, aGo cl none cd_47 3 18 ls st H = aVret 3 st H) :=
  ⟨fun _ _ _ => (aGo_s rfl).trans rfl, fun _ _ _ => (aGo_s rfl).trans rfl, fun _ _ _ => (aGo_s rfl).trans rfl, fun _ _ _ => (aGo_s rfl).trans rfl, fun _ _ _ => (aGo_s rfl).trans rfl, fun _ _ _ => (aGo_s rfl).trans rfl, fun _ _ _ => (aGo_s rfl).trans rfl, fun _ _ _ => (aGo_s rfl).trans rfl, fun _ _ _ => (aGo_s rfl).trans rfl, fun _ _ _ => (aGo_s rfl).trans rfl, fun _ _ _ => (aGo_s rfl).trans rfl⟩
theorem e_47 {d : Nat} {x0 : Nat} {x1 : Int32} {x2 : Int32} {H : aH} : aCall aMt (d + 1) 47 [.ref x0, .int x1, .int x2] H = aGo (aCall aMt d) none cd_47 3 0 [some (.ref x0), some (.int x1), some (.int x2)] [] H := (c_0 rfl ⟨rfl, Nat.le_of_ble_eq_true rfl, Nat.le_of_ble_eq_true rfl⟩).trans rfl
theorem s_48 {cl : Nat → List Value → aH → aRs} : (∀ ls st H, aGo cl none cd_48 1 0 ls st H = aILoad (fun st => aGo cl none cd_48 1 1 ls st H) ls 2 st) ∧
  (∀ ls st H, aGo cl none cd_48 1 1 ls st H = aIf (fun p st => aGo cl none cd_48 1 p ls st H) .lt 30 4 st) ∧
  (∀ ls st H, aGo cl none cd_48 1 4 ls st H = aILoad (fun st => aGo cl none cd_48 1 5 ls st H) ls 2 st) ∧
  (∀ ls st H, aGo cl none cd_48 1 5 ls st H = aRLoad (fun st => aGo cl none cd_48 1 6 ls st H) ls 0 st) ∧
  (∀ ls st H, aGo cl none cd_48 1 6 ls st H = aGet (fun st => aGo cl none cd_48 1 9 ls st H) 4 2 H st) ∧
  (∀ ls st H, aGo cl none cd_48 1 9 ls st H = aIc (fun p st => aGo cl none cd_48 1 p ls st H) .gt 30 12 st) ∧
  (∀ ls st H, aGo cl none cd_48 1 12 ls st H = aILoad (fun st => aGo cl none cd_48 1 13 ls st H) ls 1 st) ∧
  (∀ ls st H, aGo cl none cd_48 1 13 ls st H = aGo cl none cd_48 1 14 ls (.int 0 :: st) H) ∧
  (∀ ls st H, aGo cl none cd_48 1 14 ls st H = aRLoad (fun st => aGo cl none cd_48 1 15 ls st H) ls 0 st) ∧
  (∀ ls st H, aGo cl none cd_48 1 15 ls st H = aGet (fun st => aGo cl none cd_48 1 18 ls st H) 4 2 H st) ∧
  (∀ ls st H, aGo cl none cd_48 1 18 ls st H = aILoad (fun st => aGo cl none cd_48 1 19 ls st H) ls 2 st) ∧
  (∀ ls st H, aGo cl none cd_48 1 19 ls st H = aBin (fun st => aGo cl none cd_48 1 20 ls st H) (fun x y => x - y) st) ∧
  (∀ ls st H, aGo cl none cd_48 1 20 ls st H = aCallI (fun st H => aGo cl none cd_48 1 23 ls st H) cl 106 3 H st) ∧
  (∀ ls st H, aGo cl none cd_48 1 23 ls st H = aIf (fun p st => aGo cl none cd_48 1 p ls st H) .eq 30 26 st) ∧
  (∀ ls st H, aGo cl none cd_48 1 26 ls st H = aGo cl none cd_48 1 27 ls (.int 1 :: st) H) ∧
  (∀ ls st H, aGo cl none cd_48 1 27 ls st H = aGo cl none cd_48 1 31 ls st H) ∧
  (∀ ls st H, aGo cl none cd_48 1 30 ls st H = aGo cl none cd_48 1 31 ls (.int 0 :: st) H) ∧
  (∀ ls st H, aGo cl none cd_48 1 31 ls st H = aIret 1 st H) :=
  ⟨fun _ _ _ => (aGo_s rfl).trans rfl, fun _ _ _ => (aGo_s rfl).trans rfl, fun _ _ _ => (aGo_s rfl).trans rfl, fun _ _ _ => (aGo_s rfl).trans rfl, fun _ _ _ => (aGo_s rfl).trans rfl, fun _ _ _ => (aGo_s rfl).trans rfl, fun _ _ _ => (aGo_s rfl).trans rfl, fun _ _ _ => (aGo_s rfl).trans rfl, fun _ _ _ => (aGo_s rfl).trans rfl, fun _ _ _ => (aGo_s rfl).trans rfl, fun _ _ _ => (aGo_s rfl).trans rfl, fun _ _ _ => (aGo_s rfl).trans rfl, fun _ _ _ => (aGo_s rfl).trans rfl, fun _ _ _ => (aGo_s rfl).trans rfl, fun _ _ _ => (aGo_s rfl).trans rfl, fun _ _ _ => (aGo_s rfl).trans rfl, fun _ _ _ => (aGo_s rfl).trans rfl, fun _ _ _ => (aGo_s rfl).trans rfl⟩
theorem e_48 {d : Nat} {x0 : Nat} {x1 : Int32} {x2 : Int32} {H : aH} : aCall aMt (d + 1) 48 [.ref x0, .int x1, .int x2] H = aGo (aCall aMt d) none cd_48 1 0 [some (.ref x0), some (.int x1), some (.int x2)] [] H := (c_0 rfl ⟨rfl, Nat.le_of_ble_eq_true rfl, Nat.le_of_ble_eq_true rfl⟩).trans rfl
theorem s_49 {cl : Nat → List Value → aH → aRs} : (∀ ls st H, aGo cl none cd_49 3 0 ls st H = aRLoad (fun st => aGo cl none cd_49 3 1 ls st H) ls 0 st) ∧
  (∀ ls st H, aGo cl none cd_49 3 1 ls st H = aGet (fun st => aGo cl none cd_49 3 4 ls st H) 4 0 H st) ∧
  (∀ ls st H, aGo cl none cd_49 3 4 ls st H = aILoad (fun st => aGo cl none cd_49 3 5 ls st H) ls 1 st) ∧
  (∀ ls st H, aGo cl none cd_49 3 5 ls st H = aRLoad (fun st => aGo cl none cd_49 3 6 ls st H) ls 0 st) ∧
  (∀ ls st H, aGo cl none cd_49 3 6 ls st H = aGet (fun st => aGo cl none cd_49 3 9 ls st H) 4 1 H st) ∧
  (∀ ls st H, aGo cl none cd_49 3 9 ls st H = aGo cl none cd_49 3 11 ls (.int 8 :: st) H) ∧
  (∀ ls st H, aGo cl none cd_49 3 11 ls st H = aIc (fun p st => aGo cl none cd_49 3 p ls st H) .ne 19 14 st) ∧
  (∀ ls st H, aGo cl none cd_49 3 14 ls st H = aILoad (fun st => aGo cl none cd_49 3 15 ls st H) ls 2 st) ∧
  (∀ ls st H, aGo cl none cd_49 3 15 ls st H = aUn (fun st => aGo cl none cd_49 3 16 ls st H) (fun x => x.toInt8.toInt32) st) ∧
  (∀ ls st H, aGo cl none cd_49 3 16 ls st H = aGo cl none cd_49 3 34 ls st H) ∧
  (∀ ls st H, aGo cl none cd_49 3 19 ls st H = aRLoad (fun st => aGo cl none cd_49 3 20 ls st H) ls 0 st) ∧
  (∀ ls st H, aGo cl none cd_49 3 20 ls st H = aGet (fun st => aGo cl none cd_49 3 23 ls st H) 4 1 H st) ∧
  (∀ ls st H, aGo cl none cd_49 3 23 ls st H = aGo cl none cd_49 3 25 ls (.int 16 :: st) H) ∧
  (∀ ls st H, aGo cl none cd_49 3 25 ls st H = aIc (fun p st => aGo cl none cd_49 3 p ls st H) .ne 33 28 st) ∧
  (∀ ls st H, aGo cl none cd_49 3 28 ls st H = aILoad (fun st => aGo cl none cd_49 3 29 ls st H) ls 2 st) ∧
  (∀ ls st H, aGo cl none cd_49 3 29 ls st H = aUn (fun st => aGo cl none cd_49 3 30 ls st H) (fun x => x.toInt16.toInt32) st) ∧
  (∀ ls st H, aGo cl none cd_49 3 30 ls st H = aGo cl none cd_49 3 34 ls st H) ∧
  (∀ ls st H, aGo cl none cd_49 3 33 ls st H = aILoad (fun st => aGo cl none cd_49 3 34 ls st H) ls 2 st) ∧
  (∀ ls st H, aGo cl none cd_49 3 34 ls st H = aIast (fun st H => aGo cl none cd_49 3 35 ls st H) H st) ∧
  (∀ ls st H, aGo cl none cd_49 3 35 ls st H = aVret 3 st H) :=
  ⟨fun _ _ _ => (aGo_s rfl).trans rfl, fun _ _ _ => (aGo_s rfl).trans rfl, fun _ _ _ => (aGo_s rfl).trans rfl, fun _ _ _ => (aGo_s rfl).trans rfl, fun _ _ _ => (aGo_s rfl).trans rfl, fun _ _ _ => (aGo_s rfl).trans rfl, fun _ _ _ => (aGo_s rfl).trans rfl, fun _ _ _ => (aGo_s rfl).trans rfl, fun _ _ _ => (aGo_s rfl).trans rfl, fun _ _ _ => (aGo_s rfl).trans rfl, fun _ _ _ => (aGo_s rfl).trans rfl, fun _ _ _ => (aGo_s rfl).trans rfl, fun _ _ _ => (aGo_s rfl).trans rfl, fun _ _ _ => (aGo_s rfl).trans rfl, fun _ _ _ => (aGo_s rfl).trans rfl, fun _ _ _ => (aGo_s rfl).trans rfl, fun _ _ _ => (aGo_s rfl).trans rfl, fun _ _ _ => (aGo_s rfl).trans rfl, fun _ _ _ => (aGo_s rfl).trans rfl, fun _ _ _ => (aGo_s rfl).trans rfl⟩
theorem e_49 {d : Nat} {x0 : Nat} {x1 : Int32} {x2 : Int32} {H : aH} : aCall aMt (d + 1) 49 [.ref x0, .int x1, .int x2] H = aGo (aCall aMt d) none cd_49 3 0 [some (.ref x0), some (.int x1), some (.int x2)] [] H := (c_0 rfl ⟨rfl, Nat.le_of_ble_eq_true rfl, Nat.le_of_ble_eq_true rfl⟩).trans rfl
theorem s_51 {cl : Nat → List Value → aH → aRs} : (∀ ls st H, aGo cl none cd_51 3 0 ls st H = aRLoad (fun st => aGo cl none cd_51 3 1 ls st H) ls 0 st) ∧
  (∀ ls st H, aGo cl none cd_51 3 1 ls st H = aILoad (fun st => aGo cl none cd_51 3 2 ls st H) ls 1 st) ∧
  (∀ ls st H, aGo cl none cd_51 3 2 ls st H = aPut (fun st H => aGo cl none cd_51 3 5 ls st H) 5 0 H st) ∧
  (∀ ls st H, aGo cl none cd_51 3 5 ls st H = aRLoad (fun st => aGo cl none cd_51 3 6 ls st H) ls 0 st) ∧
  (∀ ls st H, aGo cl none cd_51 3 6 ls st H = aILoad (fun st => aGo cl none cd_51 3 7 ls st H) ls 2 st) ∧
  (∀ ls st H, aGo cl none cd_51 3 7 ls st H = aPut (fun st H => aGo cl none cd_51 3 10 ls st H) 5 1 H st) ∧
  (∀ ls st H, aGo cl none cd_51 3 10 ls st H = aRLoad (fun st => aGo cl none cd_51 3 11 ls st H) ls 0 st) ∧
  (∀ ls st H, aGo cl none cd_51 3 11 ls st H = aILoad (fun st => aGo cl none cd_51 3 12 ls st H) ls 3 st) ∧
  (∀ ls st H, aGo cl none cd_51 3 12 ls st H = aPut (fun st H => aGo cl none cd_51 3 15 ls st H) 5 2 H st) ∧
  (∀ ls st H, aGo cl none cd_51 3 15 ls st H = aRLoad (fun st => aGo cl none cd_51 3 16 ls st H) ls 0 st) ∧
  (∀ ls st H, aGo cl none cd_51 3 16 ls st H = aILoad (fun st => aGo cl none cd_51 3 18 ls st H) ls 4 st) ∧
  (∀ ls st H, aGo cl none cd_51 3 18 ls st H = aPut (fun st H => aGo cl none cd_51 3 21 ls st H) 5 3 H st) ∧
  (∀ ls st H, aGo cl none cd_51 3 21 ls st H = aRLoad (fun st => aGo cl none cd_51 3 22 ls st H) ls 0 st) ∧
  (∀ ls st H, aGo cl none cd_51 3 22 ls st H = aGo cl none cd_51 3 23 ls (.int 0 :: st) H) ∧
  (∀ ls st H, aGo cl none cd_51 3 23 ls st H = aPut (fun st H => aGo cl none cd_51 3 26 ls st H) 5 4 H st) ∧
  (∀ ls st H, aGo cl none cd_51 3 26 ls st H = aRLoad (fun st => aGo cl none cd_51 3 27 ls st H) ls 0 st) ∧
  (∀ ls st H, aGo cl none cd_51 3 27 ls st H = aGo cl none cd_51 3 28 ls (.int 1 :: st) H) ∧
  (∀ ls st H, aGo cl none cd_51 3 28 ls st H = aPut (fun st H => aGo cl none cd_51 3 31 ls st H) 5 5 H st) ∧
  (∀ ls st H, aGo cl none cd_51 3 31 ls st H = aRLoad (fun st => aGo cl none cd_51 3 32 ls st H) ls 0 st) ∧
  (∀ ls st H, aGo cl none cd_51 3 32 ls st H = aGo cl none cd_51 3 33 ls (.int (-1) :: st) H) ∧
  (∀ ls st H, aGo cl none cd_51 3 33 ls st H = aPut (fun st H => aGo cl none cd_51 3 36 ls st H) 5 6 H st) ∧
  (∀ ls st H, aGo cl none cd_51 3 36 ls st H = aVret 3 st H) :=
  ⟨fun _ _ _ => (aGo_s rfl).trans rfl, fun _ _ _ => (aGo_s rfl).trans rfl, fun _ _ _ => (aGo_s rfl).trans rfl, fun _ _ _ => (aGo_s rfl).trans rfl, fun _ _ _ => (aGo_s rfl).trans rfl, fun _ _ _ => (aGo_s rfl).trans rfl, fun _ _ _ => (aGo_s rfl).trans rfl, fun _ _ _ => (aGo_s rfl).trans rfl, fun _ _ _ => (aGo_s rfl).trans rfl, fun _ _ _ => (aGo_s rfl).trans rfl, fun _ _ _ => (aGo_s rfl).trans rfl, fun _ _ _ => (aGo_s rfl).trans rfl, fun _ _ _ => (aGo_s rfl).trans rfl, fun _ _ _ => (aGo_s rfl).trans rfl, fun _ _ _ => (aGo_s rfl).trans rfl, fun _ _ _ => (aGo_s rfl).trans rfl, fun _ _ _ => (aGo_s rfl).trans rfl, fun _ _ _ => (aGo_s rfl).trans rfl, fun _ _ _ => (aGo_s rfl).trans rfl, fun _ _ _ => (aGo_s rfl).trans rfl, fun _ _ _ => (aGo_s rfl).trans rfl, fun _ _ _ => (aGo_s rfl).trans rfl⟩
theorem e_51 {d : Nat} {x0 : Nat} {x1 : Int32} {x2 : Int32} {x3 : Int32} {x4 : Int32} {H : aH} : aCall aMt (d + 1) 51 [.ref x0, .int x1, .int x2, .int x3, .int x4] H = aGo (aCall aMt d) none cd_51 3 0 [some (.ref x0), some (.int x1), some (.int x2), some (.int x3), some (.int x4)] [] H := (c_0 rfl ⟨rfl, Nat.le_of_ble_eq_true rfl, Nat.le_of_ble_eq_true rfl⟩).trans rfl
theorem s_52 {cl : Nat → List Value → aH → aRs} : (∀ ls st H, aGo cl none cd_52 3 0 ls st H = aRLoad (fun st => aGo cl none cd_52 3 1 ls st H) ls 0 st) ∧
  (∀ ls st H, aGo cl none cd_52 3 1 ls st H = aRLoad (fun st => aGo cl none cd_52 3 2 ls st H) ls 1 st) ∧
  (∀ ls st H, aGo cl none cd_52 3 2 ls st H = aGet (fun st => aGo cl none cd_52 3 5 ls st H) 5 0 H st) ∧
  (∀ ls st H, aGo cl none cd_52 3 5 ls st H = aPut (fun st H => aGo cl none cd_52 3 8 ls st H) 5 0 H st) ∧
  (∀ ls st H, aGo cl none cd_52 3 8 ls st H = aRLoad (fun st => aGo cl none cd_52 3 9 ls st H) ls 0 st) ∧
  (∀ ls st H, aGo cl none cd_52 3 9 ls st H = aRLoad (fun st => aGo cl none cd_52 3 10 ls st H) ls 1 st) ∧
  (∀ ls st H, aGo cl none cd_52 3 10 ls st H = aGet (fun st => aGo cl none cd_52 3 13 ls st H) 5 1 H st) ∧
  (∀ ls st H, aGo cl none cd_52 3 13 ls st H = aPut (fun st H => aGo cl none cd_52 3 16 ls st H) 5 1 H st) ∧
  (∀ ls st H, aGo cl none cd_52 3 16 ls st H = aRLoad (fun st => aGo cl none cd_52 3 17 ls st H) ls 0 st) ∧
  (∀ ls st H, aGo cl none cd_52 3 17 ls st H = aRLoad (fun st => aGo cl none cd_52 3 18 ls st H) ls 1 st) ∧
  (∀ ls st H, aGo cl none cd_52 3 18 ls st H = aGet (fun st => aGo cl none cd_52 3 21 ls st H) 5 2 H st) ∧
  (∀ ls st H, aGo cl none cd_52 3 21 ls st H = aPut (fun st H => aGo cl none cd_52 3 24 ls st H) 5 2 H st) ∧
  (∀ ls st H, aGo cl none cd_52 3 24 ls st H = aRLoad (fun st => aGo cl none cd_52 3 25 ls st H) ls 0 st) ∧
  (∀ ls st H, aGo cl none cd_52 3 25 ls st H = aRLoad (fun st => aGo cl none cd_52 3 26 ls st H) ls 1 st) ∧
  (∀ ls st H, aGo cl none cd_52 3 26 ls st H = aGet (fun st => aGo cl none cd_52 3 29 ls st H) 5 3 H st) ∧
  (∀ ls st H, aGo cl none cd_52 3 29 ls st H = aPut (fun st H => aGo cl none cd_52 3 32 ls st H) 5 3 H st) ∧
  (∀ ls st H, aGo cl none cd_52 3 32 ls st H = aRLoad (fun st => aGo cl none cd_52 3 33 ls st H) ls 0 st) ∧
  (∀ ls st H, aGo cl none cd_52 3 33 ls st H = aRLoad (fun st => aGo cl none cd_52 3 34 ls st H) ls 1 st) ∧
  (∀ ls st H, aGo cl none cd_52 3 34 ls st H = aGet (fun st => aGo cl none cd_52 3 37 ls st H) 5 4 H st) ∧
  (∀ ls st H, aGo cl none cd_52 3 37 ls st H = aPut (fun st H => aGo cl none cd_52 3 40 ls st H) 5 4 H st) ∧
  (∀ ls st H, aGo cl none cd_52 3 40 ls st H = aRLoad (fun st => aGo cl none cd_52 3 41 ls st H) ls 0 st) ∧
  (∀ ls st H, aGo cl none cd_52 3 41 ls st H = aRLoad (fun st => aGo cl none cd_52 3 42 ls st H) ls 1 st) ∧
  (∀ ls st H, aGo cl none cd_52 3 42 ls st H = aGet (fun st => aGo cl none cd_52 3 45 ls st H) 5 5 H st) ∧
  (∀ ls st H, aGo cl none cd_52 3 45 ls st H = aPut (fun st H => aGo cl none cd_52 3 48 ls st H) 5 5 H st) ∧
  (∀ ls st H, aGo cl none cd_52 3 48 ls st H = aRLoad (fun st => aGo cl none cd_52 3 49 ls st H) ls 0 st) ∧
  (∀ ls st H, aGo cl none cd_52 3 49 ls st H = aRLoad (fun st => aGo cl none cd_52 3 50 ls st H) ls 1 st) ∧
  (∀ ls st H, aGo cl none cd_52 3 50 ls st H = aGet (fun st => aGo cl none cd_52 3 53 ls st H) 5 6 H st) ∧
  (∀ ls st H, aGo cl none cd_52 3 53 ls st H = aPut (fun st H => aGo cl none cd_52 3 56 ls st H) 5 6 H st) ∧
  (∀ ls st H, aGo cl none cd_52 3 56 ls st H = aVret 3 st H) :=
  ⟨fun _ _ _ => (aGo_s rfl).trans rfl, fun _ _ _ => (aGo_s rfl).trans rfl, fun _ _ _ => (aGo_s rfl).trans rfl, fun _ _ _ => (aGo_s rfl).trans rfl, fun _ _ _ => (aGo_s rfl).trans rfl, fun _ _ _ => (aGo_s rfl).trans rfl, fun _ _ _ => (aGo_s rfl).trans rfl, fun _ _ _ => (aGo_s rfl).trans rfl, fun _ _ _ => (aGo_s rfl).trans rfl, fun _ _ _ => (aGo_s rfl).trans rfl, fun _ _ _ => (aGo_s rfl).trans rfl, fun _ _ _ => (aGo_s rfl).trans rfl, fun _ _ _ => (aGo_s rfl).trans rfl, fun _ _ _ => (aGo_s rfl).trans rfl, fun _ _ _ => (aGo_s rfl).trans rfl, fun _ _ _ => (aGo_s rfl).trans rfl, fun _ _ _ => (aGo_s rfl).trans rfl, fun _ _ _ => (aGo_s rfl).trans rfl, fun _ _ _ => (aGo_s rfl).trans rfl, fun _ _ _ => (aGo_s rfl).trans rfl, fun _ _ _ => (aGo_s rfl).trans rfl, fun _ _ _ => (aGo_s rfl).trans rfl, fun _ _ _ => (aGo_s rfl).trans rfl, fun _ _ _ => (aGo_s rfl).trans rfl, fun _ _ _ => (aGo_s rfl).trans rfl, fun _ _ _ => (aGo_s rfl).trans rfl, fun _ _ _ => (aGo_s rfl).trans rfl, fun _ _ _ => (aGo_s rfl).trans rfl, fun _ _ _ => (aGo_s rfl).trans rfl⟩
theorem e_52 {d : Nat} {x0 : Nat} {x1 : Nat} {H : aH} : aCall aMt (d + 1) 52 [.ref x0, .ref x1] H = aGo (aCall aMt d) none cd_52 3 0 [some (.ref x0), some (.ref x1)] [] H := (c_0 rfl ⟨rfl, Nat.le_of_ble_eq_true rfl, Nat.le_of_ble_eq_true rfl⟩).trans rfl
theorem s_53 {cl : Nat → List Value → aH → aRs} : (∀ ls st H, aGo cl none cd_53 1 0 ls st H = aRLoad (fun st => aGo cl none cd_53 1 1 ls st H) ls 0 st) ∧
  (∀ ls st H, aGo cl none cd_53 1 1 ls st H = aGet (fun st => aGo cl none cd_53 1 4 ls st H) 5 5 H st) ∧
  (∀ ls st H, aGo cl none cd_53 1 4 ls st H = aIf (fun p st => aGo cl none cd_53 1 p ls st H) .eq 18 7 st) ∧
  (∀ ls st H, aGo cl none cd_53 1 7 ls st H = aRLoad (fun st => aGo cl none cd_53 1 8 ls st H) ls 0 st) ∧
  (∀ ls st H, aGo cl none cd_53 1 8 ls st H = aGet (fun st => aGo cl none cd_53 1 11 ls st H) 5 4 H st) ∧
  (∀ ls st H, aGo cl none cd_53 1 11 ls st H = aIf (fun p st => aGo cl none cd_53 1 p ls st H) .ne 18 14 st) ∧
  (∀ ls st H, aGo cl none cd_53 1 14 ls st H = aGo cl none cd_53 1 15 ls (.int 1 :: st) H) ∧
  (∀ ls st H, aGo cl none cd_53 1 15 ls st H = aGo cl none cd_53 1 19 ls st H) ∧
  (∀ ls st H, aGo cl none cd_53 1 18 ls st H = aGo cl none cd_53 1 19 ls (.int 0 :: st) H) ∧
  (∀ ls st H, aGo cl none cd_53 1 19 ls st H = aIret 1 st H) :=
  ⟨fun _ _ _ => (aGo_s rfl).trans rfl, fun _ _ _ => (aGo_s rfl).trans rfl, fun _ _ _ => (aGo_s rfl).trans rfl, fun _ _ _ => (aGo_s rfl).trans rfl, fun _ _ _ => (aGo_s rfl).trans rfl, fun _ _ _ => (aGo_s rfl).trans rfl, fun _ _ _ => (aGo_s rfl).trans rfl, fun _ _ _ => (aGo_s rfl).trans rfl, fun _ _ _ => (aGo_s rfl).trans rfl, fun _ _ _ => (aGo_s rfl).trans rfl⟩
theorem e_53 {d : Nat} {x0 : Nat} {H : aH} : aCall aMt (d + 1) 53 [.ref x0] H = aGo (aCall aMt d) none cd_53 1 0 [some (.ref x0)] [] H := (c_0 rfl ⟨rfl, Nat.le_of_ble_eq_true rfl, Nat.le_of_ble_eq_true rfl⟩).trans rfl
theorem s_54 {cl : Nat → List Value → aH → aRs} : (∀ ls st H, aGo cl none cd_54 3 0 ls st H = aRLoad (fun st => aGo cl none cd_54 3 1 ls st H) ls 0 st) ∧
  (∀ ls st H, aGo cl none cd_54 3 1 ls st H = aGo cl none cd_54 3 2 ls (.int 0 :: st) H) ∧
  (∀ ls st H, aGo cl none cd_54 3 2 ls st H = aPut (fun st H => aGo cl none cd_54 3 5 ls st H) 5 5 H st) ∧
  (∀ ls st H, aGo cl none cd_54 3 5 ls st H = aRLoad (fun st => aGo cl none cd_54 3 6 ls st H) ls 0 st) ∧
  (∀ ls st H, aGo cl none cd_54 3 6 ls st H = aILoad (fun st => aGo cl none cd_54 3 7 ls st H) ls 1 st) ∧
  (∀ ls st H, aGo cl none cd_54 3 7 ls st H = aPut (fun st H => aGo cl none cd_54 3 10 ls st H) 5 6 H st) ∧
  (∀ ls st H, aGo cl none cd_54 3 10 ls st H = aVret 3 st H) :=
  ⟨fun _ _ _ => (aGo_s rfl).trans rfl, fun _ _ _ => (aGo_s rfl).trans rfl, fun _ _ _ => (aGo_s rfl).trans rfl, fun _ _ _ => (aGo_s rfl).trans rfl, fun _ _ _ => (aGo_s rfl).trans rfl, fun _ _ _ => (aGo_s rfl).trans rfl, fun _ _ _ => (aGo_s rfl).trans rfl⟩
theorem e_54 {d : Nat} {x0 : Nat} {x1 : Int32} {H : aH} : aCall aMt (d + 1) 54 [.ref x0, .int x1] H = aGo (aCall aMt d) none cd_54 3 0 [some (.ref x0), some (.int x1)] [] H := (c_0 rfl ⟨rfl, Nat.le_of_ble_eq_true rfl, Nat.le_of_ble_eq_true rfl⟩).trans rfl
theorem s_55 {cl : Nat → List Value → aH → aRs} : (∀ ls st H, aGo cl none cd_55 3 0 ls st H = aRLoad (fun st => aGo cl none cd_55 3 1 ls st H) ls 0 st) ∧
  (∀ ls st H, aGo cl none cd_55 3 1 ls st H = aGo cl none cd_55 3 2 ls (.int 1 :: st) H) ∧
  (∀ ls st H, aGo cl none cd_55 3 2 ls st H = aPut (fun st H => aGo cl none cd_55 3 5 ls st H) 5 5 H st) ∧
  (∀ ls st H, aGo cl none cd_55 3 5 ls st H = aRLoad (fun st => aGo cl none cd_55 3 6 ls st H) ls 0 st) ∧
  (∀ ls st H, aGo cl none cd_55 3 6 ls st H = aGo cl none cd_55 3 7 ls (.int (-1) :: st) H) ∧
  (∀ ls st H, aGo cl none cd_55 3 7 ls st H = aPut (fun st H => aGo cl none cd_55 3 10 ls st H) 5 6 H st) ∧
  (∀ ls st H, aGo cl none cd_55 3 10 ls st H = aRLoad (fun st => aGo cl none cd_55 3 11 ls st H) ls 0 st) ∧
  (∀ ls st H, aGo cl none cd_55 3 11 ls st H = aGo cl none cd_55 3 12 ls (.int 0 :: st) H) ∧
  (∀ ls st H, aGo cl none cd_55 3 12 ls st H = aPut (fun st H => aGo cl none cd_55 3 15 ls st H) 5 3 H st) ∧
  (∀ ls st H, aGo cl none cd_55 3 15 ls st H = aVret 3 st H) :=
  ⟨fun _ _ _ => (aGo_s rfl).trans rfl, fun _ _ _ => (aGo_s rfl).trans rfl, fun _ _ _ => (aGo_s rfl).trans rfl, fun _ _ _ => (aGo_s rfl).trans rfl, fun _ _ _ => (aGo_s rfl).trans rfl, fun _ _ _ => (aGo_s rfl).trans rfl, fun _ _ _ => (aGo_s rfl).trans rfl, fun _ _ _ => (aGo_s rfl).trans rfl, fun _ _ _ => (aGo_s rfl).trans rfl, fun _ _ _ => (aGo_s rfl).trans rfl⟩
theorem e_55 {d : Nat} {x0 : Nat} {H : aH} : aCall aMt (d + 1) 55 [.ref x0] H = aGo (aCall aMt d) none cd_55 3 0 [some (.ref x0)] [] H := (c_0 rfl ⟨rfl, Nat.le_of_ble_eq_true rfl, Nat.le_of_ble_eq_true rfl⟩).trans rfl
theorem s_56 {cl : Nat → List Value → aH → aRs} : (∀ ls st H, aGo cl none cd_56 3 0 ls st H = aRLoad (fun st => aGo cl none cd_56 3 1 ls st H) ls 0 st) ∧
  (∀ ls st H, aGo cl none cd_56 3 1 ls st H = aGo cl none cd_56 3 3 ls (.int 9 :: st) H) ∧
  (∀ ls st H, aGo cl none cd_56 3 3 ls st H = aRLoad (fun st => aGo cl none cd_56 3 4 ls st H) ls 0 st) ∧
  (∀ ls st H, aGo cl none cd_56 3 4 ls st H = aGet (fun st => aGo cl none cd_56 3 7 ls st H) 5 3 H st) ∧
  (∀ ls st H, aGo cl none cd_56 3 7 ls st H = aGo cl none cd_56 3 8 ls (.int 1 :: st) H) ∧
  (∀ ls st H, aGo cl none cd_56 3 8 ls st H = aBin (fun st => aGo cl none cd_56 3 9 ls st H) (fun x y => x + y) st) ∧
  (∀ ls st H, aGo cl none cd_56 3 9 ls st H = aMin (fun st => aGo cl none cd_56 3 12 ls st H) st) ∧
  (∀ ls st H, aGo cl none cd_56 3 12 ls st H = aPut (fun st H => aGo cl none cd_56 3 15 ls st H) 5 3 H st) ∧
  (∀ ls st H, aGo cl none cd_56 3 15 ls st H = aVret 3 st H) :=
  ⟨fun _ _ _ => (aGo_s rfl).trans rfl, fun _ _ _ => (aGo_s rfl).trans rfl, fun _ _ _ => (aGo_s rfl).trans rfl, fun _ _ _ => (aGo_s rfl).trans rfl, fun _ _ _ => (aGo_s rfl).trans rfl, fun _ _ _ => (aGo_s rfl).trans rfl, fun _ _ _ => (aGo_s rfl).trans rfl, fun _ _ _ => (aGo_s rfl).trans rfl, fun _ _ _ => (aGo_s rfl).trans rfl⟩
theorem e_56 {d : Nat} {x0 : Nat} {H : aH} : aCall aMt (d + 1) 56 [.ref x0] H = aGo (aCall aMt d) none cd_56 3 0 [some (.ref x0)] [] H := (c_0 rfl ⟨rfl, Nat.le_of_ble_eq_true rfl, Nat.le_of_ble_eq_true rfl⟩).trans rfl
theorem s_58 {cl : Nat → List Value → aH → aRs} : (∀ ls st H, aGo cl none cd_58 1 0 ls st H = aRLoad (fun st => aGo cl none cd_58 1 1 ls st H) ls 0 st) ∧
  (∀ ls st H, aGo cl none cd_58 1 1 ls st H = aRLoad (fun st => aGo cl none cd_58 1 2 ls st H) ls 1 st) ∧
  (∀ ls st H, aGo cl none cd_58 1 2 ls st H = aGet (fun st => aGo cl none cd_58 1 5 ls st H) 2 0 H st) ∧
  (∀ ls st H, aGo cl none cd_58 1 5 ls st H = aPut (fun st H => aGo cl none cd_58 1 8 ls st H) 6 4 H st) ∧
  (∀ ls st H, aGo cl none cd_58 1 8 ls st H = aRLoad (fun st => aGo cl none cd_58 1 9 ls st H) ls 0 st) ∧
  (∀ ls st H, aGo cl none cd_58 1 9 ls st H = aRLoad (fun st => aGo cl none cd_58 1 10 ls st H) ls 1 st) ∧
  (∀ ls st H, aGo cl none cd_58 1 10 ls st H = aGet (fun st => aGo cl none cd_58 1 13 ls st H) 2 2 H st) ∧
  (∀ ls st H, aGo cl none cd_58 1 13 ls st H = aPut (fun st H => aGo cl none cd_58 1 16 ls st H) 6 5 H st) ∧
  (∀ ls st H, aGo cl none cd_58 1 16 ls st H = aRLoad (fun st => aGo cl none cd_58 1 17 ls st H) ls 0 st) ∧
  (∀ ls st H, aGo cl none cd_58 1 17 ls st H = aRLoad (fun st => aGo cl none cd_58 1 18 ls st H) ls 1 st) ∧
  (∀ ls st H, aGo cl none cd_58 1 18 ls st H = aGet (fun st => aGo cl none cd_58 1 21 ls st H) 2 1 H st) ∧
  (∀ ls st H, aGo cl none cd_58 1 21 ls st H = aPut (fun st H => aGo cl none cd_58 1 24 ls st H) 6 6 H st) ∧
  (∀ ls st H, aGo cl none cd_58 1 24 ls st H = aRLoad (fun st => aGo cl none cd_58 1 25 ls st H) ls 0 st) ∧
  (∀ ls st H, aGo cl none cd_58 1 25 ls st H = aGo cl none cd_58 1 26 ls (.int 0 :: st) H) ∧
  (∀ ls st H, aGo cl none cd_58 1 26 ls st H = aPut (fun st H => aGo cl none cd_58 1 29 ls st H) 6 1 H st) ∧
  (∀ ls st H, aGo cl none cd_58 1 29 ls st H = aRLoad (fun st => aGo cl none cd_58 1 30 ls st H) ls 0 st) ∧
  (∀ ls st H, aGo cl none cd_58 1 30 ls st H = aGo cl none cd_58 1 31 ls (.int 0 :: st) H) ∧
  (∀ ls st H, aGo cl none cd_58 1 31 ls st H = aPut (fun st H => aGo cl none cd_58 1 34 ls st H) 6 3 H st) ∧
  (∀ ls st H, aGo cl none cd_58 1 34 ls st H = aRLoad (fun st => aGo cl none cd_58 1 35 ls st H) ls 0 st) ∧
  (∀ ls st H, aGo cl none cd_58 1 35 ls st H = aRLoad (fun st => aGo cl none cd_58 1 36 ls st H) ls 0 st) ∧
  (∀ ls st H, aGo cl none cd_58 1 36 ls st H = aILoad (fun st => aGo cl none cd_58 1 37 ls st H) ls 2 st) ∧
  (∀ ls st H, aGo cl none cd_58 1 37 ls st H = aRLoad (fun st => aGo cl none cd_58 1 38 ls st H) ls 0 st) ∧
  (∀ ls st H, aGo cl none cd_58 1 38 ls st H = aGet (fun st => aGo cl none cd_58 1 41 ls st H) 6 6 H st) ∧
  (∀ ls st H, aGo cl none cd_58 1 41 ls st H = aILoad (fun st => aGo cl none cd_58 1 42 ls st H) ls 3 st) ∧
  (∀ ls st H, aGo cl none cd_58 1 42 ls st H = aGo cl none cd_58 1 43 ls (.int 0 :: st) H) ∧
  (∀ ls st H, aGo cl none cd_58 1 43 ls st H = aCallV (fun st H => aGo cl none cd_58 1 46 ls st H) cl 59 4 6 H st) ∧
  (∀ ls st H, aGo cl none cd_58 1 46 ls st H = aPut (fun st H => aGo cl none cd_58 1 49 ls st H) 6 2 H st) ∧
  (∀ ls st H, aGo cl none cd_58 1 49 ls st H = aRLoad (fun st => aGo cl none cd_58 1 50 ls st H) ls 0 st) ∧
  (∀ ls st H, aGo cl none cd_58 1 50 ls st H = aGet (fun st => aGo cl none cd_58 1 53 ls st H) 6 3 H st) ∧
  (∀ ls st H, aGo cl none cd_58 1 53 ls st H = aIf (fun p st => aGo cl none cd_58 1 p ls st H) .ne 60 56 st) ∧
  (∀ ls st H, aGo cl none cd_58 1 56 ls st H = aGo cl none cd_58 1 57 ls (.int 1 :: st) H) ∧
  (∀ ls st H, aGo cl none cd_58 1 57 ls st H = aGo cl none cd_58 1 61 ls st H) ∧
  (∀ ls st H, aGo cl none cd_58 1 60 ls st H = aGo cl none cd_58 1 61 ls (.int 0 :: st) H) ∧
  (∀ ls st H, aGo cl none cd_58 1 61 ls st H = aIret 1 st H) :=
  ⟨fun _ _ _ => (aGo_s rfl).trans rfl, fun _ _ _ => (aGo_s rfl).trans rfl, fun _ _ _ => (aGo_s rfl).trans rfl, fun _ _ _ => (aGo_s rfl).trans rfl, fun _ _ _ => (aGo_s rfl).trans rfl, fun _ _ _ => (aGo_s rfl).trans rfl, fun _ _ _ => (aGo_s rfl).trans rfl, fun _ _ _ => (aGo_s rfl).trans rfl, fun _ _ _ => (aGo_s rfl).trans rfl, fun _ _ _ => (aGo_s rfl).trans rfl, fun _ _ _ => (aGo_s rfl).trans rfl, fun _ _ _ => (aGo_s rfl).trans rfl, fun _ _ _ => (aGo_s rfl).trans rfl, fun _ _ _ => (aGo_s rfl).trans rfl, fun _ _ _ => (aGo_s rfl).trans rfl, fun _ _ _ => (aGo_s rfl).trans rfl, fun _ _ _ => (aGo_s rfl).trans rfl, fun _ _ _ => (aGo_s rfl).trans rfl, fun _ _ _ => (aGo_s rfl).trans rfl, fun _ _ _ => (aGo_s rfl).trans rfl, fun _ _ _ => (aGo_s rfl).trans rfl, fun _ _ _ => (aGo_s rfl).trans rfl, fun _ _ _ => (aGo_s rfl).trans rfl, fun _ _ _ => (aGo_s rfl).trans rfl, fun _ _ _ => (aGo_s rfl).trans rfl, fun _ _ _ => (aGo_s rfl).trans rfl, fun _ _ _ => (aGo_s rfl).trans rfl, fun _ _ _ => (aGo_s rfl).trans rfl, fun _ _ _ => (aGo_s rfl).trans rfl, fun _ _ _ => (aGo_s rfl).trans rfl, fun _ _ _ => (aGo_s rfl).trans rfl, fun _ _ _ => (aGo_s rfl).trans rfl, fun _ _ _ => (aGo_s rfl).trans rfl, fun _ _ _ => (aGo_s rfl).trans rfl⟩
theorem e_58 {d : Nat} {x0 : Nat} {x1 : Nat} {x2 : Int32} {x3 : Int32} {H : aH} : aCall aMt (d + 1) 58 [.ref x0, .ref x1, .int x2, .int x3] H = aGo (aCall aMt d) none cd_58 1 0 [some (.ref x0), some (.ref x1), some (.int x2), some (.int x3)] [] H := (c_0 rfl ⟨rfl, Nat.le_of_ble_eq_true rfl, Nat.le_of_ble_eq_true rfl⟩).trans rfl
theorem s_59 {cl : Nat → List Value → aH → aRs} : (∀ ls st H, aGo cl none cd_59 0 0 ls st H = aILoad (fun st => aGo cl none cd_59 0 1 ls st H) ls 1 st) ∧
  (∀ ls st H, aGo cl none cd_59 0 1 ls st H = aILoad (fun st => aGo cl none cd_59 0 2 ls st H) ls 2 st) ∧
  (∀ ls st H, aGo cl none cd_59 0 2 ls st H = aCallI (fun st H => aGo cl none cd_59 0 5 ls st H) cl 60 2 H st) ∧
  (∀ ls st H, aGo cl none cd_59 0 5 ls st H = aIStore (fun ls st => aGo cl none cd_59 0 7 ls st H) ls 5 st) ∧
  (∀ ls st H, aGo cl none cd_59 0 7 ls st H = aRLoad (fun st => aGo cl none cd_59 0 8 ls st H) ls 0 st) ∧
  (∀ ls st H, aGo cl none cd_59 0 8 ls st H = aGet (fun st => aGo cl none cd_59 0 11 ls st H) 6 3 H st) ∧
  (∀ ls st H, aGo cl none cd_59 0 11 ls st H = aIf (fun p st => aGo cl none cd_59 0 p ls st H) .ne 26 14 st) ∧
  (∀ ls st H, aGo cl none cd_59 0 14 ls st H = aILoad (fun st => aGo cl none cd_59 0 16 ls st H) ls 5 st) ∧
  (∀ ls st H, aGo cl none cd_59 0 16 ls st H = aIf (fun p st => aGo cl none cd_59 0 p ls st H) .lt 26 19 st) ∧
  (∀ ls st H, aGo cl none cd_59 0 19 ls st H = aILoad (fun st => aGo cl none cd_59 0 21 ls st H) ls 4 st) ∧
  (∀ ls st H, aGo cl none cd_59 0 21 ls st H = aGo cl none cd_59 0 23 ls (.int 20 :: st) H) ∧
  (∀ ls st H, aGo cl none cd_59 0 23 ls st H = aIc (fun p st => aGo cl none cd_59 0 p ls st H) .lt 28 26 st) ∧
  (∀ ls st H, aGo cl none cd_59 0 26 ls st H = aGo cl none cd_59 0 27 ls (.int 0 :: st) H) ∧
  (∀ ls st H, aGo cl none cd_59 0 27 ls st H = aIret 0 st H) ∧
  (∀ ls st H, aGo cl none cd_59 0 28 ls st H = aGo cl none cd_59 0 31 ls (.ref 1002 :: st) H) ∧
  (∀ ls st H, aGo cl none cd_59 0 31 ls st H = aGo cl none cd_59 0 32 ls (.int 4 :: st) H) ∧
  (∀ ls st H, aGo cl none cd_59 0 32 ls st H = aILoad (fun st => aGo cl none cd_59 0 34 ls st H) ls 5 st) ∧
  (∀ ls st H, aGo cl none cd_59 0 34 ls st H = aBin (fun st => aGo cl none cd_59 0 35 ls st H) (fun x y => x * y) st) ∧
  (∀ ls st H, aGo cl none cd_59 0 35 ls st H = aILoad (fun st => aGo cl none cd_59 0 36 ls st H) ls 1 st) ∧
  (∀ ls st H, aGo cl none cd_59 0 36 ls st H = aBin (fun st => aGo cl none cd_59 0 37 ls st H) (fun x y => x + y) st) ∧
  (∀ ls st H, aGo cl none cd_59 0 37 ls st H = aIald (fun st => aGo cl none cd_59 0 38 ls st H) none H st) ∧
  (∀ ls st H, aGo cl none cd_59 0 38 ls st H = aIStore (fun ls st => aGo cl none cd_59 0 40 ls st H) ls 6 st) ∧
  (∀ ls st H, aGo cl none cd_59 0 40 ls st H = aGo cl none cd_59 0 43 ls (.ref 1000 :: st) H) ∧
  (∀ ls st H, aGo cl none cd_59 0 43 ls st H = aILoad (fun st => aGo cl none cd_59 0 45 ls st H) ls 5 st) ∧
  (∀ ls st H, aGo cl none cd_59 0 45 ls st H = aIald (fun st => aGo cl none cd_59 0 46 ls st H) none H st) ∧
  (∀ ls st H, aGo cl none cd_59 0 46 ls st H = aIStore (fun ls st => aGo cl none cd_59 0 48 ls st H) ls 7 st) ∧
  (∀ ls st H, aGo cl none cd_59 0 48 ls st H = aRLoad (fun st => aGo cl none cd_59 0 49 ls st H) ls 0 st) ∧
  (∀ ls st H, aGo cl none cd_59 0 49 ls st H = aILoad (fun st => aGo cl none cd_59 0 51 ls st H) ls 6 st) ∧
  (∀ ls st H, aGo cl none cd_59 0 51 ls st H = aCallV (fun st H => aGo cl none cd_59 0 54 ls st H) cl 61 1 6 H st) ∧
  (∀ ls st H, aGo cl none cd_59 0 54 ls st H = aILoad (fun st => aGo cl none cd_59 0 56 ls st H) ls 6 st) ∧
  (∀ ls st H, aGo cl none cd_59 0 56 ls st H = aSwS (fun p st => aGo cl none cd_59 0 p ls st H) [(10, 164), (11, 171), (12, 188), (13, 208), (20, 223), (21, 238), (30, 266), (40, 281), (50, 296), (51, 311), (60, 329), (70, 344)] 347 st) ∧
  (∀ ls st H, aGo cl none cd_59 0 164 ls st H = aILoad (fun st => aGo cl none cd_59 0 165 ls st H) ls 3 st) ∧
  (∀ ls st H, aGo cl none cd_59 0 165 ls st H = aRLoad (fun st => aGo cl none cd_59 0 166 ls st H) ls 0 st) ∧
  (∀ ls st H, aGo cl none cd_59 0 166 ls st H = aGet (fun st => aGo cl none cd_59 0 169 ls st H) 6 4 H st) ∧
  (∀ ls st H, aGo cl none cd_59 0 169 ls st H = aBin (fun st => aGo cl none cd_59 0 170 ls st H) (fun x y => x + y) st) ∧
  (∀ ls st H, aGo cl none cd_59 0 170 ls st H = aIret 0 st H) ∧
  (∀ ls st H, aGo cl none cd_59 0 171 ls st H = aRLoad (fun st => aGo cl none cd_59 0 172 ls st H) ls 0 st) ∧
  (∀ ls st H, aGo cl none cd_59 0 172 ls st H = aGo cl none cd_59 0 173 ls (.int 0 :: st) H) ∧
  (∀ ls st H, aGo cl none cd_59 0 173 ls st H = aRLoad (fun st => aGo cl none cd_59 0 174 ls st H) ls 0 st) ∧
  (∀ ls st H, aGo cl none cd_59 0 174 ls st H = aGet (fun st => aGo cl none cd_59 0 177 ls st H) 6 6 H st) ∧
  (∀ ls st H, aGo cl none cd_59 0 177 ls st H = aILoad (fun st => aGo cl none cd_59 0 178 ls st H) ls 3 st) ∧
  (∀ ls st H, aGo cl none cd_59 0 178 ls st H = aILoad (fun st => aGo cl none cd_59 0 180 ls st H) ls 4 st) ∧
  (∀ ls st H, aGo cl none cd_59 0 180 ls st H = aGo cl none cd_59 0 181 ls (.int 1 :: st) H) ∧
  (∀ ls st H, aGo cl none cd_59 0 181 ls st H = aBin (fun st => aGo cl none cd_59 0 182 ls st H) (fun x y => x + y) st) ∧
  (∀ ls st H, aGo cl none cd_59 0 182 ls st H = aCallV (fun st H => aGo cl none cd_59 0 185 ls st H) cl 59 4 6 H st) ∧
  (∀ ls st H, aGo cl none cd_59 0 185 ls st H = aGo cl none cd_59 0 186 ls (.int 2 :: st) H) ∧
  (∀ ls st H, aGo cl none cd_59 0 186 ls st H = aBin (fun st => aGo cl none cd_59 0 187 ls st H) (fun x y => x * y) st) ∧
  (∀ ls st H, aGo cl none cd_59 0 187 ls st H = aIret 0 st H) ∧
  (∀ ls st H, aGo cl none cd_59 0 188 ls st H = aRLoad (fun st => aGo cl none cd_59 0 189 ls st H) ls 0 st) ∧
  (∀ ls st H, aGo cl none cd_59 0 189 ls st H = aGo cl none cd_59 0 190 ls (.int 1 :: st) H) ∧
  (∀ ls st H, aGo cl none cd_59 0 190 ls st H = aRLoad (fun st => aGo cl none cd_59 0 191 ls st H) ls 0 st) ∧
  (∀ ls st H, aGo cl none cd_59 0 191 ls st H = aGet (fun st => aGo cl none cd_59 0 194 ls st H) 6 6 H st) ∧
  (∀ ls st H, aGo cl none cd_59 0 194 ls st H = aILoad (fun st => aGo cl none cd_59 0 195 ls st H) ls 3 st) ∧
  (∀ ls st H, aGo cl none cd_59 0 195 ls st H = aILoad (fun st => aGo cl none cd_59 0 197 ls st H) ls 4 st) ∧
  (∀ ls st H, aGo cl none cd_59 0 197 ls st H = aGo cl none cd_59 0 198 ls (.int 1 :: st) H) ∧
  (∀ ls st H, aGo cl none cd_59 0 198 ls st H = aBin (fun st => aGo cl none cd_59 0 199 ls st H) (fun x y => x + y) st) ∧
  (∀ ls st H, aGo cl none cd_59 0 199 ls st H = aCallV (fun st H => aGo cl none cd_59 0 202 ls st H) cl 59 4 6 H st) ∧
  (∀ ls st H, aGo cl none cd_59 0 202 ls st H = aRLoad (fun st => aGo cl none cd_59 0 203 ls st H) ls 0 st) ∧
  (∀ ls st H, aGo cl none cd_59 0 203 ls st H = aGet (fun st => aGo cl none cd_59 0 206 ls st H) 6 5 H st) ∧
  (∀ ls st H, aGo cl none cd_59 0 206 ls st H = aBin (fun st => aGo cl none cd_59 0 207 ls st H) (fun x y => x - y) st) ∧
  (∀ ls st H, aGo cl none cd_59 0 207 ls st H = aIret 0 st H) ∧
  (∀ ls st H, aGo cl none cd_59 0 208 ls st H = aRLoad (fun st => aGo cl none cd_59 0 209 ls st H) ls 0 st) ∧
  (∀ ls st H, aGo cl none cd_59 0 209 ls st H = aILoad (fun st => aGo cl none cd_59 0 210 ls st H) ls 3 st) ∧
  (∀ ls st H, aGo cl none cd_59 0 210 ls st H = aRLoad (fun st => aGo cl none cd_59 0 211 ls st H) ls 0 st) ∧
  (∀ ls st H, aGo cl none cd_59 0 211 ls st H = aGet (fun st => aGo cl none cd_59 0 214 ls st H) 6 5 H st) ∧
  (∀ ls st H, aGo cl none cd_59 0 214 ls st H = aRLoad (fun st => aGo cl none cd_59 0 215 ls st H) ls 0 st) ∧
  (∀ ls st H, aGo cl none cd_59 0 215 ls st H = aGet (fun st => aGo cl none cd_59 0 218 ls st H) 6 4 H st) ∧
  (∀ ls st H, aGo cl none cd_59 0 218 ls st H = aBin (fun st => aGo cl none cd_59 0 219 ls st H) (fun x y => x - y) st) ∧
  (∀ ls st H, aGo cl none cd_59 0 219 ls st H = aCallV (fun st H => aGo cl none cd_59 0 222 ls st H) cl 62 2 6 H st) ∧
  (∀ ls st H, aGo cl none cd_59 0 222 ls st H = aIret 0 st H) ∧
  (∀ ls st H, aGo cl none cd_59 0 223 ls st H = aRLoad (fun st => aGo cl none cd_59 0 224 ls st H) ls 0 st) ∧
  (∀ ls st H, aGo cl none cd_59 0 224 ls st H = aGo cl none cd_59 0 225 ls (.int 0 :: st) H) ∧
  (∀ ls st H, aGo cl none cd_59 0 225 ls st H = aILoad (fun st => aGo cl none cd_59 0 227 ls st H) ls 7 st) ∧
  (∀ ls st H, aGo cl none cd_59 0 227 ls st H = aILoad (fun st => aGo cl none cd_59 0 228 ls st H) ls 3 st) ∧
  (∀ ls st H, aGo cl none cd_59 0 228 ls st H = aILoad (fun st => aGo cl none cd_59 0 230 ls st H) ls 4 st) ∧
  (∀ ls st H, aGo cl none cd_59 0 230 ls st H = aGo cl none cd_59 0 231 ls (.int 1 :: st) H) ∧
  (∀ ls st H, aGo cl none cd_59 0 231 ls st H = aBin (fun st => aGo cl none cd_59 0 232 ls st H) (fun x y => x + y) st) ∧
  (∀ ls st H, aGo cl none cd_59 0 232 ls st H = aCallV (fun st H => aGo cl none cd_59 0 235 ls st H) cl 59 4 6 H st) ∧
  (∀ ls st H, aGo cl none cd_59 0 235 ls st H = aGo cl none cd_59 0 236 ls (.int 4 :: st) H) ∧
  (∀ ls st H, aGo cl none cd_59 0 236 ls st H = aBin (fun st => aGo cl none cd_59 0 237 ls st H) (fun x y => x - y) st) ∧
  (∀ ls st H, aGo cl none cd_59 0 237 ls st H = aIret 0 st H) ∧
  (∀ ls st H, aGo cl none cd_59 0 238 ls st H = aRLoad (fun st => aGo cl none cd_59 0 239 ls st H) ls 0 st) ∧
  (∀ ls st H, aGo cl none cd_59 0 239 ls st H = aGo cl none cd_59 0 240 ls (.int 3 :: st) H) ∧
  (∀ ls st H, aGo cl none cd_59 0 240 ls st H = aILoad (fun st => aGo cl none cd_59 0 242 ls st H) ls 7 st) ∧
  (∀ ls st H, aGo cl none cd_59 0 242 ls st H = aILoad (fun st => aGo cl none cd_59 0 243 ls st H) ls 3 st) ∧
  (∀ ls st H, aGo cl none cd_59 0 243 ls st H = aILoad (fun st => aGo cl none cd_59 0 245 ls st H) ls 4 st) ∧
  (∀ ls st H, aGo cl none cd_59 0 245 ls st H = aGo cl none cd_59 0 246 ls (.int 1 :: st) H) ∧
  (∀ ls st H, aGo cl none cd_59 0 246 ls st H = aBin (fun st => aGo cl none cd_59 0 247 ls st H) (fun x y => x + y) st) ∧
  (∀ ls st H, aGo cl none cd_59 0 247 ls st H = aCallV (fun st H => aGo cl none cd_59 0 250 ls st H) cl 59 4 6 H st) ∧
  (∀ ls st H, aGo cl none cd_59 0 250 ls st H = aRLoad (fun st => aGo cl none cd_59 0 251 ls st H) ls 0 st) ∧
  (∀ ls st H, aGo cl none cd_59 0 251 ls st H = aGo cl none cd_59 0 252 ls (.int 1 :: st) H) ∧
  (∀ ls st H, aGo cl none cd_59 0 252 ls st H = aRLoad (fun st => aGo cl none cd_59 0 253 ls st H) ls 0 st) ∧
  (∀ ls st H, aGo cl none cd_59 0 253 ls st H = aGet (fun st => aGo cl none cd_59 0 256 ls st H) 6 6 H st) ∧
  (∀ ls st H, aGo cl none cd_59 0 256 ls st H = aGo cl none cd_59 0 257 ls (.int 1 :: st) H) ∧
  (∀ ls st H, aGo cl none cd_59 0 257 ls st H = aILoad (fun st => aGo cl none cd_59 0 259 ls st H) ls 4 st) ∧
  (∀ ls st H, aGo cl none cd_59 0 259 ls st H = aGo cl none cd_59 0 260 ls (.int 1 :: st) H) ∧
  (∀ ls st H, aGo cl none cd_59 0 260 ls st H = aBin (fun st => aGo cl none cd_59 0 261 ls st H) (fun x y => x + y) st) ∧
  (∀ ls st H, aGo cl none cd_59 0 261 ls st H = aCallV (fun st H => aGo cl none cd_59 0 264 ls st H) cl 59 4 6 H st) ∧
  (∀ ls st H, aGo cl none cd_59 0 264 ls st H = aBin (fun st => aGo cl none cd_59 0 265 ls st H) (fun x y => x + y) st) ∧
  (∀ ls st H, aGo cl none cd_59 0 265 ls st H = aIret 0 st H) ∧
  (∀ ls st H, aGo cl none cd_59 0 266 ls st H = aGo cl none cd_59 0 267 ls (.int 0 :: st) H) ∧
  (∀ ls st H, aGo cl none cd_59 0 267 ls st H = aRLoad (fun st => aGo cl none cd_59 0 268 ls st H) ls 0 st) ∧
  (∀ ls st H, aGo cl none cd_59 0 268 ls st H = aGo cl none cd_59 0 269 ls (.int 1 :: st) H) ∧
  (∀ ls st H, aGo cl none cd_59 0 269 ls st H = aILoad (fun st => aGo cl none cd_59 0 271 ls st H) ls 7 st) ∧
  (∀ ls st H, aGo cl none cd_59 0 271 ls st H = aILoad (fun st => aGo cl none cd_59 0 272 ls st H) ls 3 st) ∧
  (∀ ls st H, aGo cl none cd_59 0 272 ls st H = aILoad (fun st => aGo cl none cd_59 0 274 ls st H) ls 4 st) ∧
  (∀ ls st H, aGo cl none cd_59 0 274 ls st H = aGo cl none cd_59 0 275 ls (.int 1 :: st) H) ∧
  (∀ ls st H, aGo cl none cd_59 0 275 ls st H = aBin (fun st => aGo cl none cd_59 0 276 ls st H) (fun x y => x + y) st) ∧
  (∀ ls st H, aGo cl none cd_59 0 276 ls st H = aCallV (fun st H => aGo cl none cd_59 0 279 ls st H) cl 59 4 6 H st) ∧
  (∀ ls st H, aGo cl none cd_59 0 279 ls st H = aBin (fun st => aGo cl none cd_59 0 280 ls st H) (fun x y => x - y) st) ∧
  (∀ ls st H, aGo cl none cd_59 0 280 ls st H = aIret 0 st H) ∧
  (∀ ls st H, aGo cl none cd_59 0 281 ls st H = aRLoad (fun st => aGo cl none cd_59 0 282 ls st H) ls 0 st) ∧
  (∀ ls st H, aGo cl none cd_59 0 282 ls st H = aGo cl none cd_59 0 283 ls (.int 2 :: st) H) ∧
  (∀ ls st H, aGo cl none cd_59 0 283 ls st H = aILoad (fun st => aGo cl none cd_59 0 285 ls st H) ls 7 st) ∧
  (∀ ls st H, aGo cl none cd_59 0 285 ls st H = aILoad (fun st => aGo cl none cd_59 0 286 ls st H) ls 3 st) ∧
  (∀ ls st H, aGo cl none cd_59 0 286 ls st H = aGo cl none cd_59 0 287 ls (.int 2 :: st) H) ∧
  (∀ ls st H, aGo cl none cd_59 0 287 ls st H = aDiv (fun st => aGo cl none cd_59 0 288 ls st H) st) ∧
  (∀ ls st H, aGo cl none cd_59 0 288 ls st H = aILoad (fun st => aGo cl none cd_59 0 290 ls st H) ls 4 st) ∧
  (∀ ls st H, aGo cl none cd_59 0 290 ls st H = aGo cl none cd_59 0 291 ls (.int 1 :: st) H) ∧
  (∀ ls st H, aGo cl none cd_59 0 291 ls st H = aBin (fun st => aGo cl none cd_59 0 292 ls st H) (fun x y => x + y) st) ∧
  (∀ ls st H, aGo cl none cd_59 0 292 ls st H = aCallV (fun st H => aGo cl none cd_59 0 295 ls st H) cl 59 4 6 H st) ∧
  (∀ ls st H, aGo cl none cd_59 0 295 ls st H = aIret 0 st H) ∧
  (∀ ls st H, aGo cl none cd_59 0 296 ls st H = aRLoad (fun st => aGo cl none cd_59 0 297 ls st H) ls 0 st) ∧
  (∀ ls st H, aGo cl none cd_59 0 297 ls st H = aGo cl none cd_59 0 298 ls (.int 0 :: st) H) ∧
  (∀ ls st H, aGo cl none cd_59 0 298 ls st H = aILoad (fun st => aGo cl none cd_59 0 300 ls st H) ls 7 st) ∧
  (∀ ls st H, aGo cl none cd_59 0 300 ls st H = aILoad (fun st => aGo cl none cd_59 0 301 ls st H) ls 3 st) ∧
  (∀ ls st H, aGo cl none cd_59 0 301 ls st H = aILoad (fun st => aGo cl none cd_59 0 303 ls st H) ls 4 st) ∧
  (∀ ls st H, aGo cl none cd_59 0 303 ls st H = aGo cl none cd_59 0 304 ls (.int 1 :: st) H) ∧
  (∀ ls st H, aGo cl none cd_59 0 304 ls st H = aBin (fun st => aGo cl none cd_59 0 305 ls st H) (fun x y => x + y) st) ∧
  (∀ ls st H, aGo cl none cd_59 0 305 ls st H = aCallV (fun st H => aGo cl none cd_59 0 308 ls st H) cl 59 4 6 H st) ∧
  (∀ ls st H, aGo cl none cd_59 0 308 ls st H = aGo cl none cd_59 0 309 ls (.int 3 :: st) H) ∧
  (∀ ls st H, aGo cl none cd_59 0 309 ls st H = aBin (fun st => aGo cl none cd_59 0 310 ls st H) (fun x y => x * y) st) ∧
  (∀ ls st H, aGo cl none cd_59 0 310 ls st H = aIret 0 st H) ∧
  (∀ ls st H, aGo cl none cd_59 0 311 ls st H = aRLoad (fun st => aGo cl none cd_59 0 312 ls st H) ls 0 st) ∧
  (∀ ls st H, aGo cl none cd_59 0 312 ls st H = aGo cl none cd_59 0 313 ls (.int 2 :: st) H) ∧
  (∀ ls st H, aGo cl none cd_59 0 313 ls st H = aILoad (fun st => aGo cl none cd_59 0 315 ls st H) ls 7 st) ∧
  (∀ ls st H, aGo cl none cd_59 0 315 ls st H = aILoad (fun st => aGo cl none cd_59 0 316 ls st H) ls 3 st) ∧
  (∀ ls st H, aGo cl none cd_59 0 316 ls st H = aILoad (fun st => aGo cl none cd_59 0 318 ls st H) ls 4 st) ∧
  (∀ ls st H, aGo cl none cd_59 0 318 ls st H = aGo cl none cd_59 0 319 ls (.int 1 :: st) H) ∧
  (∀ ls st H, aGo cl none cd_59 0 319 ls st H = aBin (fun st => aGo cl none cd_59 0 320 ls st H) (fun x y => x + y) st) ∧
  (∀ ls st H, aGo cl none cd_59 0 320 ls st H = aCallV (fun st H => aGo cl none cd_59 0 323 ls st H) cl 59 4 6 H st) ∧
  (∀ ls st H, aGo cl none cd_59 0 323 ls st H = aRLoad (fun st => aGo cl none cd_59 0 324 ls st H) ls 0 st) ∧
  (∀ ls st H, aGo cl none cd_59 0 324 ls st H = aGet (fun st => aGo cl none cd_59 0 327 ls st H) 6 4 H st) ∧
  (∀ ls st H, aGo cl none cd_59 0 327 ls st H = aBin (fun st => aGo cl none cd_59 0 328 ls st H) (fun x y => x ^^^ y) st) ∧
  (∀ ls st H, aGo cl none cd_59 0 328 ls st H = aIret 0 st H) ∧
  (∀ ls st H, aGo cl none cd_59 0 329 ls st H = aRLoad (fun st => aGo cl none cd_59 0 330 ls st H) ls 0 st) ∧
  (∀ ls st H, aGo cl none cd_59 0 330 ls st H = aGo cl none cd_59 0 331 ls (.int 1 :: st) H) ∧
  (∀ ls st H, aGo cl none cd_59 0 331 ls st H = aILoad (fun st => aGo cl none cd_59 0 333 ls st H) ls 7 st) ∧
  (∀ ls st H, aGo cl none cd_59 0 333 ls st H = aILoad (fun st => aGo cl none cd_59 0 334 ls st H) ls 3 st) ∧
  (∀ ls st H, aGo cl none cd_59 0 334 ls st H = aGo cl none cd_59 0 335 ls (.int 1 :: st) H) ∧
  (∀ ls st H, aGo cl none cd_59 0 335 ls st H = aBin (fun st => aGo cl none cd_59 0 336 ls st H) (fun x y => x + y) st) ∧
  (∀ ls st H, aGo cl none cd_59 0 336 ls st H = aILoad (fun st => aGo cl none cd_59 0 338 ls st H) ls 4 st) ∧
  (∀ ls st H, aGo cl none cd_59 0 338 ls st H = aGo cl none cd_59 0 339 ls (.int 1 :: st) H) ∧
  (∀ ls st H, aGo cl none cd_59 0 339 ls st H = aBin (fun st => aGo cl none cd_59 0 340 ls st H) (fun x y => x + y) st) ∧
  (∀ ls st H, aGo cl none cd_59 0 340 ls st H = aCallV (fun st H => aGo cl none cd_59 0 343 ls st H) cl 59 4 6 H st) ∧
  (∀ ls st H, aGo cl none cd_59 0 343 ls st H = aIret 0 st H) ∧
  (∀ ls st H, aGo cl none cd_59 0 344 ls st H = aGo cl none cd_59 0 346 ls (.int 9 :: st) H) ∧
  (∀ ls st H, aGo cl none cd_59 0 346 ls st H = aIret 0 st H) ∧
  (∀ ls st H, aGo cl none cd_59 0 347 ls st H = aRLoad (fun st => aGo cl none cd_59 0 348 ls st H) ls 0 st) ∧
  (∀ ls st H, aGo cl none cd_59 0 348 ls st H = aGo cl none cd_59 0 349 ls (.int 1 :: st) H) ∧
  (∀ ls st H, aGo cl none cd_59 0 349 ls st H = aILoad (fun st => aGo cl none cd_59 0 351 ls st H) ls 7 st) ∧
  (∀ ls st H, aGo cl none cd_59 0 351 ls st H = aILoad (fun st => aGo cl none cd_59 0 352 ls st H) ls 3 st) ∧
  (∀ ls st H, aGo cl none cd_59 0 352 ls st H = aILoad (fun st => aGo cl none cd_59 0 354 ls st H) ls 4 st) ∧
  (∀ ls st H, aGo cl none cd_59 0 354 ls st H = aGo cl none cd_59 0 355 ls (.int 1 :: st) H) ∧
  (∀ ls st H, aGo cl none cd_59 0 355 ls st H = aBin (fun st => aGo cl none cd_59 0 356 ls st H) (fun x y => x + y) st) ∧
  (∀ ls st H, aGo cl none cd_59 0 356 ls st H = aCallV (fun st H => aGo cl none cd_59 0 359 ls st H) cl 59 4 6 H st) ∧
  (∀ ls st H, aGo cl none cd_59 0 359 ls st H = aRLoad (fun st => aGo cl none cd_59 0 360 ls st H) ls 0 st) ∧
  (∀ ls st H, aGo cl none cd_59 0 360 ls st H = aGet (fun st => aGo cl none cd_59 0 363 ls st H) 6 5 H st) ∧
  (∀ ls st H, aGo cl none cd_59 0 363 ls st H = aBin (fun st => aGo cl none cd_59 0 364 ls st H) (fun x y => x + y) st) ∧
  (∀ ls st H, aGo cl none cd_59 0 364 ls st H = aIret 0 st H) :=
  ⟨fun _ _ _ => (aGo_s rfl).trans rfl, fun _ _ _ => (aGo_s rfl).trans rfl, fun _ _ _ => (aGo_s rfl).trans rfl, fun _ _ _ => (aGo_s rfl).trans rfl, fun _ _ _ => (aGo_s rfl).trans rfl, fun _ _ _ => (aGo_s rfl).trans rfl, fun _ _ _ => (aGo_s rfl).trans rfl, fun _ _ _ => (aGo_s rfl).trans rfl, fun _ _ _ => (aGo_s rfl).trans rfl, fun _ _ _ => (aGo_s rfl).trans rfl, fun _ _ _ => (aGo_s rfl).trans rfl, fun _ _ _ => (aGo_s rfl).trans rfl, fun _ _ _ => (aGo_s rfl).trans rfl, fun _ _ _ => (aGo_s rfl).trans rfl, fun _ _ _ => (aGo_s rfl).trans rfl, fun _ _ _ => (aGo_s rfl).trans rfl, fun _ _ _ => (aGo_s rfl).trans rfl, fun _ _ _ => (aGo_s rfl).trans rfl, fun _ _ _ => (aGo_s rfl).trans rfl, fun _ _ _ => (aGo_s rfl).trans rfl, fun _ _ _ => (aGo_s rfl).trans rfl, fun _ _ _ => (aGo_s rfl).trans rfl, fun _ _ _ => (aGo_s rfl).trans rfl, fun _ _ _ => (aGo_s rfl).trans rfl, fun _ _ _ => (aGo_s rfl).trans rfl, fun _ _ _ => (aGo_s rfl).trans rfl, fun _ _ _ => (aGo_s rfl).trans rfl, fun _ _ _ => (aGo_s rfl).trans rfl, fun _ _ _ => (aGo_s rfl).trans rfl, fun _ _ _ => (aGo_s rfl).trans rfl, fun _ _ _ => (aGo_s rfl).trans rfl, fun _ _ _ => (aGo_s rfl).trans rfl, fun _ _ _ => (aGo_s rfl).trans rfl, fun _ _ _ => (aGo_s rfl).trans rfl, fun _ _ _ => (aGo_s rfl).trans rfl, fun _ _ _ => (aGo_s rfl).trans rfl, fun _ _ _ => (aGo_s rfl).trans rfl, fun _ _ _ => (aGo_s rfl).trans rfl, fun _ _ _ => (aGo_s rfl).trans rfl, fun _ _ _ => (aGo_s rfl).trans rfl, fun _ _ _ => (aGo_s rfl).trans rfl, fun _ _ _ => (aGo_s rfl).trans rfl, fun _ _ _ => (aGo_s rfl).trans rfl, fun _ _ _ => (aGo_s rfl).trans rfl, fun _ _ _ => (aGo_s rfl).trans rfl, fun _ _ _ => (aGo_s rfl).trans rfl, fun _ _ _ => (aGo_s rfl).trans rfl, fun _ _ _ => (aGo_s rfl).trans rfl, fun _ _ _ => (aGo_s rfl).trans rfl, fun _ _ _ => (aGo_s rfl).trans rfl, fun _ _ _ => (aGo_s rfl).trans rfl, fun _ _ _ => (aGo_s rfl).trans rfl, fun _ _ _ => (aGo_s rfl).trans rfl, fun _ _ _ => (aGo_s rfl).trans rfl, fun _ _ _ => (aGo_s rfl).trans rfl, fun _ _ _ => (aGo_s rfl).trans rfl, fun _ _ _ => (aGo_s rfl).trans rfl, fun _ _ _ => (aGo_s rfl).trans rfl, fun _ _ _ => (aGo_s rfl).trans rfl, fun _ _ _ => (aGo_s rfl).trans rfl, fun _ _ _ => (aGo_s rfl).trans rfl, fun _ _ _ => (aGo_s rfl).trans rfl, fun _ _ _ => (aGo_s rfl).trans rfl, fun _ _ _ => (aGo_s rfl).trans rfl, fun _ _ _ => (aGo_s rfl).trans rfl, fun _ _ _ => (aGo_s rfl).trans rfl, fun _ _ _ => (aGo_s rfl).trans rfl, fun _ _ _ => (aGo_s rfl).trans rfl, fun _ _ _ => (aGo_s rfl).trans rfl, fun _ _ _ => (aGo_s rfl).trans rfl, fun _ _ _ => (aGo_s rfl).trans rfl, fun _ _ _ => (aGo_s rfl).trans rfl, fun _ _ _ => (aGo_s rfl).trans rfl, fun _ _ _ => (aGo_s rfl).trans rfl, fun _ _ _ => (aGo_s rfl).trans rfl, fun _ _ _ => (aGo_s rfl).trans rfl, fun _ _ _ => (aGo_s rfl).trans rfl, fun _ _ _ => (aGo_s rfl).trans rfl, fun _ _ _ => (aGo_s rfl).trans rfl, fun _ _ _ => (aGo_s rfl).trans rfl, fun _ _ _ => (aGo_s rfl).trans rfl, fun _ _ _ => (aGo_s rfl).trans rfl, fun _ _ _ => (aGo_s rfl).trans rfl, fun _ _ _ => (aGo_s rfl).trans rfl, fun _ _ _ => (aGo_s rfl).trans rfl, fun _ _ _ => (aGo_s rfl).trans rfl, fun _ _ _ => (aGo_s rfl).trans rfl, fun _ _ _ => (aGo_s rfl).trans rfl, fun _ _ _ => (aGo_s rfl).trans rfl, fun _ _ _ => (aGo_s rfl).trans rfl, fun _ _ _ => (aGo_s rfl).trans rfl, fun _ _ _ => (aGo_s rfl).trans rfl, fun _ _ _ => (aGo_s rfl).trans rfl, fun _ _ _ => (aGo_s rfl).trans rfl, fun _ _ _ => (aGo_s rfl).trans rfl, fun _ _ _ => (aGo_s rfl).trans rfl, fun _ _ _ => (aGo_s rfl).trans rfl, fun _ _ _ => (aGo_s rfl).trans rfl, fun _ _ _ => (aGo_s rfl).trans rfl, fun _ _ _ => (aGo_s rfl).trans rfl, fun _ _ _ => (aGo_s rfl).trans rfl, fun _ _ _ => (aGo_s rfl).trans rfl, fun _ _ _ => (aGo_s rfl).trans rfl, fun _ _ _ => (aGo_s rfl).trans rfl, fun _ _ _ => (aGo_s rfl).trans rfl, fun _ _ _ => (aGo_s rfl).trans rfl, fun _ _ _ => (aGo_s rfl).trans rfl, fun _ _ _ => (aGo_s rfl).trans rfl, fun _ _ _ => (aGo_s rfl).trans rfl, fun _ _ _ => (aGo_s rfl).trans rfl, fun _ _ _ => (aGo_s rfl).trans rfl, fun _ _ _ => (aGo_s rfl).trans rfl, fun _ _ _ => (aGo_s rfl).trans rfl, fun _ _ _ => (aGo_s rfl).trans rfl, fun _ _ _ => (aGo_s rfl).trans rfl, fun _ _ _ => (aGo_s rfl).trans rfl, fun _ _ _ => (aGo_s rfl).trans rfl, fun _ _ _ => (aGo_s rfl).trans rfl, fun _ _ _ => (aGo_s rfl).trans rfl, fun _ _ _ => (aGo_s rfl).trans rfl, fun _ _ _ => (aGo_s rfl).trans rfl, fun _ _ _ => (aGo_s rfl).trans rfl, fun _ _ _ => (aGo_s rfl).trans rfl, fun _ _ _ => (aGo_s rfl).trans rfl, fun _ _ _ => (aGo_s rfl).trans rfl, fun _ _ _ => (aGo_s rfl).trans rfl, fun _ _ _ => (aGo_s rfl).trans rfl, fun _ _ _ => (aGo_s rfl).trans rfl, fun _ _ _ => (aGo_s rfl).trans rfl, fun _ _ _ => (aGo_s rfl).trans rfl, fun _ _ _ => (aGo_s rfl).trans rfl, fun _ _ _ => (aGo_s rfl).trans rfl, fun _ _ _ => (aGo_s rfl).trans rfl, fun _ _ _ => (aGo_s rfl).trans rfl, fun _ _ _ => (aGo_s rfl).trans rfl, fun _ _ _ => (aGo_s rfl).trans rfl, fun _ _ _ => (aGo_s rfl).trans rfl, fun _ _ _ => (aGo_s rfl).trans rfl, fun _ _ _ => (aGo_s rfl).trans rfl, fun _ _ _ => (aGo_s rfl).trans rfl, fun _ _ _ => (aGo_s rfl).trans rfl, fun _ _ _ => (aGo_s rfl).trans rfl, fun _ _ _ => (aGo_s rfl).trans rfl, fun _ _ _ => (aGo_s rfl).trans rfl, fun _ _ _ => (aGo_s rfl).trans rfl, fun _ _ _ => (aGo_s rfl).trans rfl, fun _ _ _ => (aGo_s rfl).trans rfl, fun _ _ _ => (aGo_s rfl).trans rfl, fun _ _ _ => (aGo_s rfl).trans rfl, fun _ _ _ => (aGo_s rfl).trans rfl, fun _ _ _ => (aGo_s rfl).trans rfl, fun _ _ _ => (aGo_s rfl).trans rfl, fun _ _ _ => (aGo_s rfl).trans rfl, fun _ _ _ => (aGo_s rfl).trans rfl, fun _ _ _ => (aGo_s rfl).trans rfl, fun _ _ _ => (aGo_s rfl).trans rfl, fun _ _ _ => (aGo_s rfl).trans rfl, fun _ _ _ => (aGo_s rfl).trans rfl, fun _ _ _ => (aGo_s rfl).trans rfl, fun _ _ _ => (aGo_s rfl).trans rfl, fun _ _ _ => (aGo_s rfl).trans rfl, fun _ _ _ => (aGo_s rfl).trans rfl, fun _ _ _ => (aGo_s rfl).trans rfl, fun _ _ _ => (aGo_s rfl).trans rfl, fun _ _ _ => (aGo_s rfl).trans rfl, fun _ _ _ => (aGo_s rfl).trans rfl, fun _ _ _ => (aGo_s rfl).trans rfl, fun _ _ _ => (aGo_s rfl).trans rfl, fun _ _ _ => (aGo_s rfl).trans rfl, fun _ _ _ => (aGo_s rfl).trans rfl⟩
theorem e_59 {d : Nat} {x0 : Nat} {x1 : Int32} {x2 : Int32} {x3 : Int32} {x4 : Int32} {H : aH} : aCall aMt (d + 1) 59 [.ref x0, .int x1, .int x2, .int x3, .int x4] H = aGo (aCall aMt d) none cd_59 0 0 [some (.ref x0), some (.int x1), some (.int x2), some (.int x3), some (.int x4), none, none, none] [] H := (c_0 rfl ⟨rfl, Nat.le_of_ble_eq_true rfl, Nat.le_of_ble_eq_true rfl⟩).trans rfl
theorem s_60 {cl : Nat → List Value → aH → aRs} : (∀ ls st H, aGo cl none cd_60 0 0 ls st H = aILoad (fun st => aGo cl none cd_60 0 1 ls st H) ls 1 st) ∧
  (∀ ls st H, aGo cl none cd_60 0 1 ls st H = aIStore (fun ls st => aGo cl none cd_60 0 2 ls st H) ls 2 st) ∧
  (∀ ls st H, aGo cl none cd_60 0 2 ls st H = aGo cl none cd_60 0 3 ls (.int 0 :: st) H) ∧
  (∀ ls st H, aGo cl none cd_60 0 3 ls st H = aIStore (fun ls st => aGo cl none cd_60 0 4 ls st H) ls 3 st) ∧
  (∀ ls st H, aGo cl none cd_60 0 5 ls st H = aGo cl none cd_60 0 7 ls (.int 7 :: st) H) ∧
  (∀ ls st H, aGo cl none cd_60 0 7 ls st H = aIc (fun p st => aGo cl none cd_60 0 p ls st H) .ge 46 10 st) ∧
  (∀ ls st H, aGo cl none cd_60 0 10 ls st H = aILoad (fun st => aGo cl none cd_60 0 11 ls st H) ls 2 st) ∧
  (∀ ls st H, aGo cl none cd_60 0 11 ls st H = aGo cl none cd_60 0 12 ls (.int 0 :: st) H) ∧
  (∀ ls st H, aGo cl none cd_60 0 12 ls st H = aGo cl none cd_60 0 14 ls (.int 6 :: st) H) ∧
  (∀ ls st H, aGo cl none cd_60 0 14 ls st H = aCallI (fun st H => aGo cl none cd_60 0 17 ls st H) cl 106 3 H st) ∧
  (∀ ls st H, aGo cl none cd_60 0 17 ls st H = aIf (fun p st => aGo cl none cd_60 0 p ls st H) .eq 46 20 st) ∧
  (∀ ls st H, aGo cl none cd_60 0 20 ls st H = aGo cl none cd_60 0 23 ls (.ref 1002 :: st) H) ∧
  (∀ ls st H, aGo cl none cd_60 0 23 ls st H = aGo cl none cd_60 0 24 ls (.int 4 :: st) H) ∧
  (∀ ls st H, aGo cl none cd_60 0 24 ls st H = aILoad (fun st => aGo cl none cd_60 0 25 ls st H) ls 2 st) ∧
  (∀ ls st H, aGo cl none cd_60 0 25 ls st H = aBin (fun st => aGo cl none cd_60 0 26 ls st H) (fun x y => x * y) st) ∧
  (∀ ls st H, aGo cl none cd_60 0 26 ls st H = aILoad (fun st => aGo cl none cd_60 0 27 ls st H) ls 0 st) ∧
  (∀ ls st H, aGo cl none cd_60 0 27 ls st H = aBin (fun st => aGo cl none cd_60 0 28 ls st H) (fun x y => x + y) st) ∧
  (∀ ls st H, aGo cl none cd_60 0 28 ls st H = aIald (fun st => aGo cl none cd_60 0 29 ls st H) none H st) ∧
  (∀ ls st H, aGo cl none cd_60 0 29 ls st H = aIf (fun p st => aGo cl none cd_60 0 p ls st H) .eq 34 32 st) ∧
  (∀ ls st H, aGo cl none cd_60 0 32 ls st H = aILoad (fun st => aGo cl none cd_60 0 33 ls st H) ls 2 st) ∧
  (∀ ls st H, aGo cl none cd_60 0 33 ls st H = aIret 0 st H) ∧
  (∀ ls st H, aGo cl none cd_60 0 34 ls st H = aGo cl none cd_60 0 37 ls (.ref 1000 :: st) H) ∧
  (∀ ls st H, aGo cl none cd_60 0 37 ls st H = aILoad (fun st => aGo cl none cd_60 0 38 ls st H) ls 2 st) ∧
  (∀ ls st H, aGo cl none cd_60 0 38 ls st H = aIald (fun st => aGo cl none cd_60 0 39 ls st H) none H st) ∧
  (∀ ls st H, aGo cl none cd_60 0 39 ls st H = aIStore (fun ls st => aGo cl none cd_60 0 40 ls st H) ls 2 st) ∧
  (∀ ls st H, aGo cl none cd_60 0 40 ls st H = aInc (fun ls => aGo cl none cd_60 0 43 ls st H) ls 3 1) ∧
  (∀ ls st H, aGo cl none cd_60 0 43 ls st H = aGo cl none cd_60 0 4 ls st H) ∧
  (∀ ls st H, aGo cl none cd_60 0 46 ls st H = aGo cl none cd_60 0 47 ls (.int (-1) :: st) H) ∧
  (∀ ls st H, aGo cl none cd_60 0 47 ls st H = aIret 0 st H) :=
  ⟨fun _ _ _ => (aGo_s rfl).trans rfl, fun _ _ _ => (aGo_s rfl).trans rfl, fun _ _ _ => (aGo_s rfl).trans rfl, fun _ _ _ => (aGo_s rfl).trans rfl, fun _ _ _ => (aGo_s rfl).trans rfl, fun _ _ _ => (aGo_s rfl).trans rfl, fun _ _ _ => (aGo_s rfl).trans rfl, fun _ _ _ => (aGo_s rfl).trans rfl, fun _ _ _ => (aGo_s rfl).trans rfl, fun _ _ _ => (aGo_s rfl).trans rfl, fun _ _ _ => (aGo_s rfl).trans rfl, fun _ _ _ => (aGo_s rfl).trans rfl, fun _ _ _ => (aGo_s rfl).trans rfl, fun _ _ _ => (aGo_s rfl).trans rfl, fun _ _ _ => (aGo_s rfl).trans rfl, fun _ _ _ => (aGo_s rfl).trans rfl, fun _ _ _ => (aGo_s rfl).trans rfl, fun _ _ _ => (aGo_s rfl).trans rfl, fun _ _ _ => (aGo_s rfl).trans rfl, fun _ _ _ => (aGo_s rfl).trans rfl, fun _ _ _ => (aGo_s rfl).trans rfl, fun _ _ _ => (aGo_s rfl).trans rfl, fun _ _ _ => (aGo_s rfl).trans rfl, fun _ _ _ => (aGo_s rfl).trans rfl, fun _ _ _ => (aGo_s rfl).trans rfl, fun _ _ _ => (aGo_s rfl).trans rfl, fun _ _ _ => (aGo_s rfl).trans rfl, fun _ _ _ => (aGo_s rfl).trans rfl, fun _ _ _ => (aGo_s rfl).trans rfl⟩
theorem s_60_4 {cl : Nat → List Value → aH → aRs} : ∀ ls st H, aGo cl none cd_60 0 4 ls st H = aILoad (fun st => aGo cl none cd_60 0 5 ls st H) ls 3 st := fun _ _ _ => (aGo_s rfl).trans rfl
theorem e_60 {d : Nat} {x0 : Int32} {x1 : Int32} {H : aH} : aCall aMt (d + 1) 60 [.int x0, .int x1] H = aGo (aCall aMt d) none cd_60 0 0 [some (.int x0), some (.int x1), none, none] [] H := (c_0 rfl ⟨rfl, Nat.le_of_ble_eq_true rfl, Nat.le_of_ble_eq_true rfl⟩).trans rfl
theorem s_61 {cl : Nat → List Value → aH → aRs} : (∀ ls st H, aGo cl none cd_61 3 0 ls st H = aRLoad (fun st => aGo cl none cd_61 3 1 ls st H) ls 0 st) ∧
  (∀ ls st H, aGo cl none cd_61 3 1 ls st H = aGet (fun st => aGo cl none cd_61 3 4 ls st H) 6 1 H st) ∧
  (∀ ls st H, aGo cl none cd_61 3 4 ls st H = aGo cl none cd_61 3 6 ls (.int 30 :: st) H) ∧
  (∀ ls st H, aGo cl none cd_61 3 6 ls st H = aIc (fun p st => aGo cl none cd_61 3 p ls st H) .ge 29 9 st) ∧
  (∀ ls st H, aGo cl none cd_61 3 9 ls st H = aRLoad (fun st => aGo cl none cd_61 3 10 ls st H) ls 0 st) ∧
  (∀ ls st H, aGo cl none cd_61 3 10 ls st H = aGet (fun st => aGo cl none cd_61 3 13 ls st H) 6 0 H st) ∧
  (∀ ls st H, aGo cl none cd_61 3 13 ls st H = aRLoad (fun st => aGo cl none cd_61 3 14 ls st H) ls 0 st) ∧
  (∀ ls st H, aGo cl none cd_61 3 14 ls st H = aGet (fun st => aGo cl none cd_61 3 17 ls st H) 6 1 H st) ∧
  (∀ ls st H, aGo cl none cd_61 3 17 ls st H = aILoad (fun st => aGo cl none cd_61 3 18 ls st H) ls 1 st) ∧
  (∀ ls st H, aGo cl none cd_61 3 18 ls st H = aIast (fun st H => aGo cl none cd_61 3 19 ls st H) H st) ∧
  (∀ ls st H, aGo cl none cd_61 3 19 ls st H = aRLoad (fun st => aGo cl none cd_61 3 20 ls st H) ls 0 st) ∧
  (∀ ls st H, aGo cl none cd_61 3 20 ls st H = aDup (fun st => aGo cl none cd_61 3 21 ls st H) st) ∧
  (∀ ls st H, aGo cl none cd_61 3 21 ls st H = aGet (fun st => aGo cl none cd_61 3 24 ls st H) 6 1 H st) ∧
  (∀ ls st H, aGo cl none cd_61 3 24 ls st H = aGo cl none cd_61 3 25 ls (.int 1 :: st) H) ∧
  (∀ ls st H, aGo cl none cd_61 3 25 ls st H = aBin (fun st => aGo cl none cd_61 3 26 ls st H) (fun x y => x + y) st) ∧
  (∀ ls st H, aGo cl none cd_61 3 26 ls st H = aPut (fun st H => aGo cl none cd_61 3 29 ls st H) 6 1 H st) ∧
  (∀ ls st H, aGo cl none cd_61 3 29 ls st H = aVret 3 st H) :=
  ⟨fun _ _ _ => (aGo_s rfl).trans rfl, fun _ _ _ => (aGo_s rfl).trans rfl, fun _ _ _ => (aGo_s rfl).trans rfl, fun _ _ _ => (aGo_s rfl).trans rfl, fun _ _ _ => (aGo_s rfl).trans rfl, fun _ _ _ => (aGo_s rfl).trans rfl, fun _ _ _ => (aGo_s rfl).trans rfl, fun _ _ _ => (aGo_s rfl).trans rfl, fun _ _ _ => (aGo_s rfl).trans rfl, fun _ _ _ => (aGo_s rfl).trans rfl, fun _ _ _ => (aGo_s rfl).trans rfl, fun _ _ _ => (aGo_s rfl).trans rfl, fun _ _ _ => (aGo_s rfl).trans rfl, fun _ _ _ => (aGo_s rfl).trans rfl, fun _ _ _ => (aGo_s rfl).trans rfl, fun _ _ _ => (aGo_s rfl).trans rfl, fun _ _ _ => (aGo_s rfl).trans rfl⟩
theorem e_61 {d : Nat} {x0 : Nat} {x1 : Int32} {H : aH} : aCall aMt (d + 1) 61 [.ref x0, .int x1] H = aGo (aCall aMt d) none cd_61 3 0 [some (.ref x0), some (.int x1)] [] H := (c_0 rfl ⟨rfl, Nat.le_of_ble_eq_true rfl, Nat.le_of_ble_eq_true rfl⟩).trans rfl
theorem s_62 {cl : Nat → List Value → aH → aRs} : (∀ ls st H, aGo cl none cd_62 0 0 ls st H = aILoad (fun st => aGo cl none cd_62 0 1 ls st H) ls 2 st) ∧
  (∀ ls st H, aGo cl none cd_62 0 1 ls st H = aIf (fun p st => aGo cl none cd_62 0 p ls st H) .ne 11 4 st) ∧
  (∀ ls st H, aGo cl none cd_62 0 4 ls st H = aRLoad (fun st => aGo cl none cd_62 0 5 ls st H) ls 0 st) ∧
  (∀ ls st H, aGo cl none cd_62 0 5 ls st H = aGo cl none cd_62 0 6 ls (.int 1 :: st) H) ∧
  (∀ ls st H, aGo cl none cd_62 0 6 ls st H = aPut (fun st H => aGo cl none cd_62 0 9 ls st H) 6 3 H st) ∧
  (∀ ls st H, aGo cl none cd_62 0 9 ls st H = aGo cl none cd_62 0 10 ls (.int 0 :: st) H) ∧
  (∀ ls st H, aGo cl none cd_62 0 10 ls st H = aIret 0 st H) ∧
  (∀ ls st H, aGo cl none cd_62 0 11 ls st H = aILoad (fun st => aGo cl none cd_62 0 12 ls st H) ls 1 st) ∧
  (∀ ls st H, aGo cl none cd_62 0 12 ls st H = aILoad (fun st => aGo cl none cd_62 0 13 ls st H) ls 2 st) ∧
  (∀ ls st H, aGo cl none cd_62 0 13 ls st H = aDiv (fun st => aGo cl none cd_62 0 14 ls st H) st) ∧
  (∀ ls st H, aGo cl none cd_62 0 14 ls st H = aIret 0 st H) :=
  ⟨fun _ _ _ => (aGo_s rfl).trans rfl, fun _ _ _ => (aGo_s rfl).trans rfl, fun _ _ _ => (aGo_s rfl).trans rfl, fun _ _ _ => (aGo_s rfl).trans rfl, fun _ _ _ => (aGo_s rfl).trans rfl, fun _ _ _ => (aGo_s rfl).trans rfl, fun _ _ _ => (aGo_s rfl).trans rfl, fun _ _ _ => (aGo_s rfl).trans rfl, fun _ _ _ => (aGo_s rfl).trans rfl, fun _ _ _ => (aGo_s rfl).trans rfl, fun _ _ _ => (aGo_s rfl).trans rfl⟩
theorem e_62 {d : Nat} {x0 : Nat} {x1 : Int32} {x2 : Int32} {H : aH} : aCall aMt (d + 1) 62 [.ref x0, .int x1, .int x2] H = aGo (aCall aMt d) none cd_62 0 0 [some (.ref x0), some (.int x1), some (.int x2)] [] H := (c_0 rfl ⟨rfl, Nat.le_of_ble_eq_true rfl, Nat.le_of_ble_eq_true rfl⟩).trans rfl
