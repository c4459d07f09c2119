/-! rewriting rows: an instruction a row; loop heads stand alone (by program) -/
theorem s_64 {cl : Nat → List Value → aH → aRs} : (∀ ls st H, aGo cl none cd_64 0 0 ls st H = aILoad (fun st => aGo cl none cd_64 0 1 ls st H) ls 1 st) ∧
  (∀ ls st H, aGo cl none cd_64 0 1 ls st H = aCallI (fun st H => aGo cl none cd_64 0 4 ls st H) cl 108 1 H st) ∧
  (∀ ls st H, aGo cl none cd_64 0 4 ls st H = aIf (fun p st => aGo cl none cd_64 0 p ls st H) .ne 14 7 st) ∧
  (∀ ls st H, aGo cl none cd_64 0 7 ls st H = aRLoad (fun st => aGo cl none cd_64 0 8 ls st H) ls 0 st) ∧
  (∀ ls st H, aGo cl none cd_64 0 8 ls st H = aGo cl none cd_64 0 10 ls (.int (-1000000001) :: st) H) ∧
  (∀ ls st H, aGo cl none cd_64 0 10 ls st H = aCallV (fun st H => aGo cl none cd_64 0 13 ls st H) cl 105 1 7 H st) ∧
  (∀ ls st H, aGo cl none cd_64 0 13 ls st H = aIret 0 st H) ∧
  (∀ ls st H, aGo cl none cd_64 0 14 ls st H = aRLoad (fun st => aGo cl none cd_64 0 15 ls st H) ls 0 st) ∧
  (∀ ls st H, aGo cl none cd_64 0 15 ls st H = aGet (fun st => aGo cl none cd_64 0 18 ls st H) 7 0 H st) ∧
  (∀ ls st H, aGo cl none cd_64 0 18 ls st H = aGet (fun st => aGo cl none cd_64 0 21 ls st H) 0 6 H st) ∧
  (∀ ls st H, aGo cl none cd_64 0 21 ls st H = aGo cl none cd_64 0 23 ls (.int 8 :: st) H) ∧
  (∀ ls st H, aGo cl none cd_64 0 23 ls st H = aIc (fun p st => aGo cl none cd_64 0 p ls st H) .lt 33 26 st) ∧
  (∀ ls st H, aGo cl none cd_64 0 26 ls st H = aRLoad (fun st => aGo cl none cd_64 0 27 ls st H) ls 0 st) ∧
  (∀ ls st H, aGo cl none cd_64 0 27 ls st H = aGo cl none cd_64 0 29 ls (.int (-1000000004) :: st) H) ∧
  (∀ ls st H, aGo cl none cd_64 0 29 ls st H = aCallV (fun st H => aGo cl none cd_64 0 32 ls st H) cl 105 1 7 H st) ∧
  (∀ ls st H, aGo cl none cd_64 0 32 ls st H = aIret 0 st H) ∧
  (∀ ls st H, aGo cl none cd_64 0 33 ls st H = aRLoad (fun st => aGo cl none cd_64 0 34 ls st H) ls 0 st) ∧
  (∀ ls st H, aGo cl none cd_64 0 34 ls st H = aGet (fun st => aGo cl none cd_64 0 37 ls st H) 7 0 H st) ∧
  (∀ ls st H, aGo cl none cd_64 0 37 ls st H = aGet (fun st => aGo cl none cd_64 0 40 ls st H) 0 6 H st) ∧
  (∀ ls st H, aGo cl none cd_64 0 40 ls st H = aIStore (fun ls st => aGo cl none cd_64 0 41 ls st H) ls 2 st) ∧
  (∀ ls st H, aGo cl none cd_64 0 41 ls st H = aRLoad (fun st => aGo cl none cd_64 0 42 ls st H) ls 0 st) ∧
  (∀ ls st H, aGo cl none cd_64 0 42 ls st H = aGet (fun st => aGo cl none cd_64 0 45 ls st H) 7 0 H st) ∧
  (∀ ls st H, aGo cl none cd_64 0 45 ls st H = aGet (fun st => aGo cl none cd_64 0 48 ls st H) 0 0 H st) ∧
  (∀ ls st H, aGo cl none cd_64 0 48 ls st H = aILoad (fun st => aGo cl none cd_64 0 49 ls st H) ls 2 st) ∧
  (∀ ls st H, aGo cl none cd_64 0 49 ls st H = aAald (fun st => aGo cl none cd_64 0 50 ls st H) H st) ∧
  (∀ ls st H, aGo cl none cd_64 0 50 ls st H = aILoad (fun st => aGo cl none cd_64 0 51 ls st H) ls 1 st) ∧
  (∀ ls st H, aGo cl none cd_64 0 51 ls st H = aCallV (fun st H => aGo cl none cd_64 0 54 ls st H) cl 29 1 2 H st) ∧
  (∀ ls st H, aGo cl none cd_64 0 54 ls st H = aRLoad (fun st => aGo cl none cd_64 0 55 ls st H) ls 0 st) ∧
  (∀ ls st H, aGo cl none cd_64 0 55 ls st H = aGet (fun st => aGo cl none cd_64 0 58 ls st H) 7 0 H st) ∧
  (∀ ls st H, aGo cl none cd_64 0 58 ls st H = aDup (fun st => aGo cl none cd_64 0 59 ls st H) st) ∧
  (∀ ls st H, aGo cl none cd_64 0 59 ls st H = aGet (fun st => aGo cl none cd_64 0 62 ls st H) 0 6 H st) ∧
  (∀ ls st H, aGo cl none cd_64 0 62 ls st H = aGo cl none cd_64 0 63 ls (.int 1 :: st) H) ∧
  (∀ ls st H, aGo cl none cd_64 0 63 ls st H = aBin (fun st => aGo cl none cd_64 0 64 ls st H) (fun x y => x + y) st) ∧
  (∀ ls st H, aGo cl none cd_64 0 64 ls st H = aPut (fun st H => aGo cl none cd_64 0 67 ls st H) 0 6 H st) ∧
  (∀ ls st H, aGo cl none cd_64 0 67 ls st H = aILoad (fun st => aGo cl none cd_64 0 68 ls st H) ls 2 st) ∧
  (∀ ls st H, aGo cl none cd_64 0 68 ls st H = aIret 0 st H) :=
  ⟨fun _ _ _ => (aGo_s rfl).trans rfl, fun _ _ _ => (aGo_s rfl).trans rfl, fun _ _ _ => (aGo_s rfl).trans rfl, fun _ _ _ => (aGo_s rfl).trans rfl, fun _ _ _ => (aGo_s rfl).trans rfl, fun _ _ _ => (aGo_s rfl).trans rfl, fun _ _ _ => (aGo_s rfl).trans rfl, fun _ _ _ => (aGo_s rfl).trans rfl, fun _ _ _ => (aGo_s rfl).trans rfl, fun _ _ _ => (aGo_s rfl).trans rfl, fun _ _ _ => (aGo_s rfl).trans rfl, fun _ _ _ => (aGo_s rfl).trans rfl, fun _ _ _ => (aGo_s rfl).trans rfl, fun _ _ _ => (aGo_s rfl).trans rfl, fun _ _ _ => (aGo_s rfl).trans rfl, fun _ _ _ => (aGo_s rfl).trans rfl, fun _ _ _ => (aGo_s rfl).trans rfl, fun _ _ _ => (aGo_s rfl).trans rfl, fun _ _ _ => (aGo_s rfl).trans rfl, fun _ _ _ => (aGo_s rfl).trans rfl, fun _ _ _ => (aGo_s rfl).trans rfl, fun _ _ _ => (aGo_s rfl).trans rfl, fun _ _ _ => (aGo_s rfl).trans rfl, fun _ _ _ => (aGo_s rfl).trans rfl, fun _ _ _ => (aGo_s rfl).trans rfl, fun _ _ _ => (aGo_s rfl).trans rfl, fun _ _ _ => (aGo_s rfl).trans rfl, fun _ _ _ => (aGo_s rfl).trans rfl, fun _ _ _ => (aGo_s rfl).trans rfl, fun _ _ _ => (aGo_s rfl).trans rfl, fun _ _ _ => (aGo_s rfl).trans rfl, fun _ _ _ => (aGo_s rfl).trans rfl, fun _ _ _ => (aGo_s rfl).trans rfl, fun _ _ _ => (aGo_s rfl).trans rfl, fun _ _ _ => (aGo_s rfl).trans rfl, fun _ _ _ => (aGo_s rfl).trans rfl⟩
theorem e_64 {d : Nat} {x0 : Nat} {x1 : Int32} {H : aH} : aCall aMt (d + 1) 64 [.ref x0, .int x1] H = aGo (aCall aMt d) none cd_64 0 0 [some (.ref x0), some (.int x1), none] [] H := (c_0 rfl ⟨rfl, Nat.le_of_ble_eq_true rfl, Nat.le_of_ble_eq_true rfl⟩).trans rfl
theorem s_65 {cl : Nat → List Value → aH → aRs} : (∀ ls st H, aGo cl none cd_65 0 0 ls st H = aRLoad (fun st => aGo cl none cd_65 0 1 ls st H) ls 0 st) ∧
  (∀ ls st H, aGo cl none cd_65 0 1 ls st H = aGet (fun st => aGo cl none cd_65 0 4 ls st H) 7 0 H st) ∧
  (∀ ls st H, aGo cl none cd_65 0 4 ls st H = aILoad (fun st => aGo cl none cd_65 0 5 ls st H) ls 1 st) ∧
  (∀ ls st H, aGo cl none cd_65 0 5 ls st H = aCallV (fun st H => aGo cl none cd_65 0 8 ls st H) cl 2 1 0 H st) ∧
  (∀ ls st H, aGo cl none cd_65 0 8 ls st H = aRStore (fun ls st => aGo cl none cd_65 0 9 ls st H) ls 3 st) ∧
  (∀ ls st H, aGo cl none cd_65 0 9 ls st H = aRLoad (fun st => aGo cl none cd_65 0 10 ls st H) ls 3 st) ∧
  (∀ ls st H, aGo cl none cd_65 0 10 ls st H = aNul (fun p st => aGo cl none cd_65 0 p ls st H) 13 20 st) ∧
  (∀ ls st H, aGo cl none cd_65 0 13 ls st H = aRLoad (fun st => aGo cl none cd_65 0 14 ls st H) ls 0 st) ∧
  (∀ ls st H, aGo cl none cd_65 0 14 ls st H = aGo cl none cd_65 0 16 ls (.int (-1000000001) :: st) H) ∧
  (∀ ls st H, aGo cl none cd_65 0 16 ls st H = aCallV (fun st H => aGo cl none cd_65 0 19 ls st H) cl 105 1 7 H st) ∧
  (∀ ls st H, aGo cl none cd_65 0 19 ls st H = aIret 0 st H) ∧
  (∀ ls st H, aGo cl none cd_65 0 20 ls st H = aILoad (fun st => aGo cl none cd_65 0 21 ls st H) ls 2 st) ∧
  (∀ ls st H, aGo cl none cd_65 0 21 ls st H = aSwS (fun p st => aGo cl none cd_65 0 p ls st H) [(0, 60), (1, 65), (2, 70), (3, 75), (4, 80), (5, 85)] 94 st) ∧
  (∀ ls st H, aGo cl none cd_65 0 60 ls st H = aRLoad (fun st => aGo cl none cd_65 0 61 ls st H) ls 3 st) ∧
  (∀ ls st H, aGo cl none cd_65 0 61 ls st H = aGet (fun st => aGo cl none cd_65 0 64 ls st H) 2 1 H st) ∧
  (∀ ls st H, aGo cl none cd_65 0 64 ls st H = aIret 0 st H) ∧
  (∀ ls st H, aGo cl none cd_65 0 65 ls st H = aRLoad (fun st => aGo cl none cd_65 0 66 ls st H) ls 3 st) ∧
  (∀ ls st H, aGo cl none cd_65 0 66 ls st H = aGet (fun st => aGo cl none cd_65 0 69 ls st H) 2 2 H st) ∧
  (∀ ls st H, aGo cl none cd_65 0 69 ls st H = aIret 0 st H) ∧
  (∀ ls st H, aGo cl none cd_65 0 70 ls st H = aRLoad (fun st => aGo cl none cd_65 0 71 ls st H) ls 3 st) ∧
  (∀ ls st H, aGo cl none cd_65 0 71 ls st H = aGet (fun st => aGo cl none cd_65 0 74 ls st H) 2 3 H st) ∧
  (∀ ls st H, aGo cl none cd_65 0 74 ls st H = aIret 0 st H) ∧
  (∀ ls st H, aGo cl none cd_65 0 75 ls st H = aRLoad (fun st => aGo cl none cd_65 0 76 ls st H) ls 3 st) ∧
  (∀ ls st H, aGo cl none cd_65 0 76 ls st H = aGet (fun st => aGo cl none cd_65 0 79 ls st H) 2 4 H st) ∧
  (∀ ls st H, aGo cl none cd_65 0 79 ls st H = aIret 0 st H) ∧
  (∀ ls st H, aGo cl none cd_65 0 80 ls st H = aRLoad (fun st => aGo cl none cd_65 0 81 ls st H) ls 3 st) ∧
  (∀ ls st H, aGo cl none cd_65 0 81 ls st H = aGet (fun st => aGo cl none cd_65 0 84 ls st H) 2 5 H st) ∧
  (∀ ls st H, aGo cl none cd_65 0 84 ls st H = aIret 0 st H) ∧
  (∀ ls st H, aGo cl none cd_65 0 85 ls st H = aRLoad (fun st => aGo cl none cd_65 0 86 ls st H) ls 0 st) ∧
  (∀ ls st H, aGo cl none cd_65 0 86 ls st H = aGet (fun st => aGo cl none cd_65 0 89 ls st H) 7 0 H st) ∧
  (∀ ls st H, aGo cl none cd_65 0 89 ls st H = aRLoad (fun st => aGo cl none cd_65 0 90 ls st H) ls 3 st) ∧
  (∀ ls st H, aGo cl none cd_65 0 90 ls st H = aCallV (fun st H => aGo cl none cd_65 0 93 ls st H) cl 6 1 0 H st) ∧
  (∀ ls st H, aGo cl none cd_65 0 93 ls st H = aIret 0 st H) ∧
  (∀ ls st H, aGo cl none cd_65 0 94 ls st H = aRLoad (fun st => aGo cl none cd_65 0 95 ls st H) ls 0 st) ∧
  (∀ ls st H, aGo cl none cd_65 0 95 ls st H = aGo cl none cd_65 0 97 ls (.int (-1000000001) :: st) H) ∧
  (∀ ls st H, aGo cl none cd_65 0 97 ls st H = aCallV (fun st H => aGo cl none cd_65 0 100 ls st H) cl 105 1 7 H st) ∧
  (∀ ls st H, aGo cl none cd_65 0 100 ls st H = aIret 0 st H) :=
  ⟨fun _ _ _ => (aGo_s rfl).trans rfl, fun _ _ _ => (aGo_s rfl).trans rfl, fun _ _ _ => (aGo_s rfl).trans rfl, fun _ _ _ => (aGo_s rfl).trans rfl, fun _ _ _ => (aGo_s rfl).trans rfl, fun _ _ _ => (aGo_s rfl).trans rfl, fun _ _ _ => (aGo_s rfl).trans rfl, fun _ _ _ => (aGo_s rfl).trans rfl, fun _ _ _ => (aGo_s rfl).trans rfl, fun _ _ _ => (aGo_s rfl).trans rfl, fun _ _ _ => (aGo_s rfl).trans rfl, fun _ _ _ => (aGo_s rfl).trans rfl, fun _ _ _ => (aGo_s rfl).trans rfl, fun _ _ _ => (aGo_s rfl).trans rfl, fun _ _ _ => (aGo_s rfl).trans rfl, fun _ _ _ => (aGo_s rfl).trans rfl, fun _ _ _ => (aGo_s rfl).trans rfl, fun _ _ _ => (aGo_s rfl).trans rfl, fun _ _ _ => (aGo_s rfl).trans rfl, fun _ _ _ => (aGo_s rfl).trans rfl, fun _ _ _ => (aGo_s rfl).trans rfl, fun _ _ _ => (aGo_s rfl).trans rfl, fun _ _ _ => (aGo_s rfl).trans rfl, fun _ _ _ => (aGo_s rfl).trans rfl, fun _ _ _ => (aGo_s rfl).trans rfl, fun _ _ _ => (aGo_s rfl).trans rfl, fun _ _ _ => (aGo_s rfl).trans rfl, fun _ _ _ => (aGo_s rfl).trans rfl, fun _ _ _ => (aGo_s rfl).trans rfl, fun _ _ _ => (aGo_s rfl).trans rfl, fun _ _ _ => (aGo_s rfl).trans rfl, fun _ _ _ => (aGo_s rfl).trans rfl, fun _ _ _ => (aGo_s rfl).trans rfl, fun _ _ _ => (aGo_s rfl).trans rfl, fun _ _ _ => (aGo_s rfl).trans rfl, fun _ _ _ => (aGo_s rfl).trans rfl, fun _ _ _ => (aGo_s rfl).trans rfl⟩
theorem e_65 {d : Nat} {x0 : Nat} {x1 : Int32} {x2 : Int32} {H : aH} : aCall aMt (d + 1) 65 [.ref x0, .int x1, .int x2] H = aGo (aCall aMt d) none cd_65 0 0 [some (.ref x0), some (.int x1), some (.int x2), none] [] H := (c_0 rfl ⟨rfl, Nat.le_of_ble_eq_true rfl, Nat.le_of_ble_eq_true rfl⟩).trans rfl
theorem s_66 {cl : Nat → List Value → aH → aRs} : (∀ ls st H, aGo cl none cd_66 0 0 ls st H = aRLoad (fun st => aGo cl none cd_66 0 1 ls st H) ls 0 st) ∧
  (∀ ls st H, aGo cl none cd_66 0 1 ls st H = aGet (fun st => aGo cl none cd_66 0 4 ls st H) 7 0 H st) ∧
  (∀ ls st H, aGo cl none cd_66 0 4 ls st H = aILoad (fun st => aGo cl none cd_66 0 5 ls st H) ls 1 st) ∧
  (∀ ls st H, aGo cl none cd_66 0 5 ls st H = aCallV (fun st H => aGo cl none cd_66 0 8 ls st H) cl 2 1 0 H st) ∧
  (∀ ls st H, aGo cl none cd_66 0 8 ls st H = aRStore (fun ls st => aGo cl none cd_66 0 9 ls st H) ls 3 st) ∧
  (∀ ls st H, aGo cl none cd_66 0 9 ls st H = aRLoad (fun st => aGo cl none cd_66 0 10 ls st H) ls 3 st) ∧
  (∀ ls st H, aGo cl none cd_66 0 10 ls st H = aNul (fun p st => aGo cl none cd_66 0 p ls st H) 20 13 st) ∧
  (∀ ls st H, aGo cl none cd_66 0 13 ls st H = aILoad (fun st => aGo cl none cd_66 0 14 ls st H) ls 2 st) ∧
  (∀ ls st H, aGo cl none cd_66 0 14 ls st H = aCallI (fun st H => aGo cl none cd_66 0 17 ls st H) cl 108 1 H st) ∧
  (∀ ls st H, aGo cl none cd_66 0 17 ls st H = aIf (fun p st => aGo cl none cd_66 0 p ls st H) .ne 27 20 st) ∧
  (∀ ls st H, aGo cl none cd_66 0 20 ls st H = aRLoad (fun st => aGo cl none cd_66 0 21 ls st H) ls 0 st) ∧
  (∀ ls st H, aGo cl none cd_66 0 21 ls st H = aGo cl none cd_66 0 23 ls (.int (-1000000001) :: st) H) ∧
  (∀ ls st H, aGo cl none cd_66 0 23 ls st H = aCallV (fun st H => aGo cl none cd_66 0 26 ls st H) cl 105 1 7 H st) ∧
  (∀ ls st H, aGo cl none cd_66 0 26 ls st H = aIret 0 st H) ∧
  (∀ ls st H, aGo cl none cd_66 0 27 ls st H = aRLoad (fun st => aGo cl none cd_66 0 28 ls st H) ls 3 st) ∧
  (∀ ls st H, aGo cl none cd_66 0 28 ls st H = aGet (fun st => aGo cl none cd_66 0 31 ls st H) 2 1 H st) ∧
  (∀ ls st H, aGo cl none cd_66 0 31 ls st H = aIStore (fun ls st => aGo cl none cd_66 0 33 ls st H) ls 4 st) ∧
  (∀ ls st H, aGo cl none cd_66 0 33 ls st H = aRLoad (fun st => aGo cl none cd_66 0 34 ls st H) ls 3 st) ∧
  (∀ ls st H, aGo cl none cd_66 0 34 ls st H = aILoad (fun st => aGo cl none cd_66 0 35 ls st H) ls 2 st) ∧
  (∀ ls st H, aGo cl none cd_66 0 35 ls st H = aCallV (fun st H => aGo cl none cd_66 0 38 ls st H) cl 30 1 2 H st) ∧
  (∀ ls st H, aGo cl none cd_66 0 38 ls st H = aILoad (fun st => aGo cl none cd_66 0 40 ls st H) ls 4 st) ∧
  (∀ ls st H, aGo cl none cd_66 0 40 ls st H = aIret 0 st H) :=
  ⟨fun _ _ _ => (aGo_s rfl).trans rfl, fun _ _ _ => (aGo_s rfl).trans rfl, fun _ _ _ => (aGo_s rfl).trans rfl, fun _ _ _ => (aGo_s rfl).trans rfl, fun _ _ _ => (aGo_s rfl).trans rfl, fun _ _ _ => (aGo_s rfl).trans rfl, fun _ _ _ => (aGo_s rfl).trans rfl, fun _ _ _ => (aGo_s rfl).trans rfl, fun _ _ _ => (aGo_s rfl).trans rfl, fun _ _ _ => (aGo_s rfl).trans rfl, fun _ _ _ => (aGo_s rfl).trans rfl, fun _ _ _ => (aGo_s rfl).trans rfl, fun _ _ _ => (aGo_s rfl).trans rfl, fun _ _ _ => (aGo_s rfl).trans rfl, fun _ _ _ => (aGo_s rfl).trans rfl, fun _ _ _ => (aGo_s rfl).trans rfl, fun _ _ _ => (aGo_s rfl).trans rfl, fun _ _ _ => (aGo_s rfl).trans rfl, fun _ _ _ => (aGo_s rfl).trans rfl, fun _ _ _ => (aGo_s rfl).trans rfl, fun _ _ _ => (aGo_s rfl).trans rfl, fun _ _ _ => (aGo_s rfl).trans rfl⟩
theorem e_66 {d : Nat} {x0 : Nat} {x1 : Int32} {x2 : Int32} {H : aH} : aCall aMt (d + 1) 66 [.ref x0, .int x1, .int x2] H = aGo (aCall aMt d) none cd_66 0 0 [some (.ref x0), some (.int x1), some (.int x2), none, none] [] H := (c_0 rfl ⟨rfl, Nat.le_of_ble_eq_true rfl, Nat.le_of_ble_eq_true rfl⟩).trans rfl
theorem s_67 {cl : Nat → List Value → aH → aRs} : (∀ ls st H, aGo cl none cd_67 0 0 ls st H = aRLoad (fun st => aGo cl none cd_67 0 1 ls st H) ls 0 st) ∧
  (∀ ls st H, aGo cl none cd_67 0 1 ls st H = aGet (fun st => aGo cl none cd_67 0 4 ls st H) 7 0 H st) ∧
  (∀ ls st H, aGo cl none cd_67 0 4 ls st H = aILoad (fun st => aGo cl none cd_67 0 5 ls st H) ls 1 st) ∧
  (∀ ls st H, aGo cl none cd_67 0 5 ls st H = aCallV (fun st H => aGo cl none cd_67 0 8 ls st H) cl 2 1 0 H st) ∧
  (∀ ls st H, aGo cl none cd_67 0 8 ls st H = aRStore (fun ls st => aGo cl none cd_67 0 9 ls st H) ls 3 st) ∧
  (∀ ls st H, aGo cl none cd_67 0 9 ls st H = aRLoad (fun st => aGo cl none cd_67 0 10 ls st H) ls 3 st) ∧
  (∀ ls st H, aGo cl none cd_67 0 10 ls st H = aNul (fun p st => aGo cl none cd_67 0 p ls st H) 23 13 st) ∧
  (∀ ls st H, aGo cl none cd_67 0 13 ls st H = aILoad (fun st => aGo cl none cd_67 0 14 ls st H) ls 2 st) ∧
  (∀ ls st H, aGo cl none cd_67 0 14 ls st H = aGo cl none cd_67 0 15 ls (.int 0 :: st) H) ∧
  (∀ ls st H, aGo cl none cd_67 0 15 ls st H = aGo cl none cd_67 0 17 ls (.int 6 :: st) H) ∧
  (∀ ls st H, aGo cl none cd_67 0 17 ls st H = aCallI (fun st H => aGo cl none cd_67 0 20 ls st H) cl 106 3 H st) ∧
  (∀ ls st H, aGo cl none cd_67 0 20 ls st H = aIf (fun p st => aGo cl none cd_67 0 p ls st H) .ne 30 23 st) ∧
  (∀ ls st H, aGo cl none cd_67 0 23 ls st H = aRLoad (fun st => aGo cl none cd_67 0 24 ls st H) ls 0 st) ∧
  (∀ ls st H, aGo cl none cd_67 0 24 ls st H = aGo cl none cd_67 0 26 ls (.int (-1000000001) :: st) H) ∧
  (∀ ls st H, aGo cl none cd_67 0 26 ls st H = aCallV (fun st H => aGo cl none cd_67 0 29 ls st H) cl 105 1 7 H st) ∧
  (∀ ls st H, aGo cl none cd_67 0 29 ls st H = aIret 0 st H) ∧
  (∀ ls st H, aGo cl none cd_67 0 30 ls st H = aRLoad (fun st => aGo cl none cd_67 0 31 ls st H) ls 3 st) ∧
  (∀ ls st H, aGo cl none cd_67 0 31 ls st H = aILoad (fun st => aGo cl none cd_67 0 32 ls st H) ls 2 st) ∧
  (∀ ls st H, aGo cl none cd_67 0 32 ls st H = aCallV (fun st H => aGo cl none cd_67 0 35 ls st H) cl 32 1 2 H st) ∧
  (∀ ls st H, aGo cl none cd_67 0 35 ls st H = aIf (fun p st => aGo cl none cd_67 0 p ls st H) .ne 45 38 st) ∧
  (∀ ls st H, aGo cl none cd_67 0 38 ls st H = aRLoad (fun st => aGo cl none cd_67 0 39 ls st H) ls 0 st) ∧
  (∀ ls st H, aGo cl none cd_67 0 39 ls st H = aGo cl none cd_67 0 41 ls (.int (-1000000005) :: st) H) ∧
  (∀ ls st H, aGo cl none cd_67 0 41 ls st H = aCallV (fun st H => aGo cl none cd_67 0 44 ls st H) cl 105 1 7 H st) ∧
  (∀ ls st H, aGo cl none cd_67 0 44 ls st H = aIret 0 st H) ∧
  (∀ ls st H, aGo cl none cd_67 0 45 ls st H = aRLoad (fun st => aGo cl none cd_67 0 46 ls st H) ls 3 st) ∧
  (∀ ls st H, aGo cl none cd_67 0 46 ls st H = aGet (fun st => aGo cl none cd_67 0 49 ls st H) 2 2 H st) ∧
  (∀ ls st H, aGo cl none cd_67 0 49 ls st H = aIret 0 st H) :=
  ⟨fun _ _ _ => (aGo_s rfl).trans rfl, fun _ _ _ => (aGo_s rfl).trans rfl, fun _ _ _ => (aGo_s rfl).trans rfl, fun _ _ _ => (aGo_s rfl).trans rfl, fun _ _ _ => (aGo_s rfl).trans rfl, fun _ _ _ => (aGo_s rfl).trans rfl, fun _ _ _ => (aGo_s rfl).trans rfl, fun _ _ _ => (aGo_s rfl).trans rfl, fun _ _ _ => (aGo_s rfl).trans rfl, fun _ _ _ => (aGo_s rfl).trans rfl, fun _ _ _ => (aGo_s rfl).trans rfl, fun _ _ _ => (aGo_s rfl).trans rfl, fun _ _ _ => (aGo_s rfl).trans rfl, fun _ _ _ => (aGo_s rfl).trans rfl, fun _ _ _ => (aGo_s rfl).trans rfl, fun _ _ _ => (aGo_s rfl).trans rfl, fun _ _ _ => (aGo_s rfl).trans rfl, fun _ _ _ => (aGo_s rfl).trans rfl, fun _ _ _ => (aGo_s rfl).trans rfl, fun _ _ _ => (aGo_s rfl).trans rfl, fun _ _ _ => (aGo_s rfl).trans rfl, fun _ _ _ => (aGo_s rfl).trans rfl, fun _ _ _ => (aGo_s rfl).trans rfl, fun _ _ _ => (aGo_s rfl).trans rfl, fun _ _ _ => (aGo_s rfl).trans rfl, fun _ _ _ => (aGo_s rfl).trans rfl, fun _ _ _ => (aGo_s rfl).trans rfl⟩
theorem e_67 {d : Nat} {x0 : Nat} {x1 : Int32} {x2 : Int32} {H : aH} : aCall aMt (d + 1) 67 [.ref x0, .int x1, .int x2] H = aGo (aCall aMt d) none cd_67 0 0 [some (.ref x0), some (.int x1), some (.int x2), none] [] H := (c_0 rfl ⟨rfl, Nat.le_of_ble_eq_true rfl, Nat.le_of_ble_eq_true rfl⟩).trans rfl
theorem s_68 {cl : Nat → List Value → aH → aRs} : (∀ ls st H, aGo cl none cd_68 0 0 ls st H = aRLoad (fun st => aGo cl none cd_68 0 1 ls st H) ls 0 st) ∧
  (∀ ls st H, aGo cl none cd_68 0 1 ls st H = aGet (fun st => aGo cl none cd_68 0 4 ls st H) 7 0 H st) ∧
  (∀ ls st H, aGo cl none cd_68 0 4 ls st H = aILoad (fun st => aGo cl none cd_68 0 5 ls st H) ls 1 st) ∧
  (∀ ls st H, aGo cl none cd_68 0 5 ls st H = aCallV (fun st H => aGo cl none cd_68 0 8 ls st H) cl 2 1 0 H st) ∧
  (∀ ls st H, aGo cl none cd_68 0 8 ls st H = aRStore (fun ls st => aGo cl none cd_68 0 10 ls st H) ls 4 st) ∧
  (∀ ls st H, aGo cl none cd_68 0 10 ls st H = aRLoad (fun st => aGo cl none cd_68 0 12 ls st H) ls 4 st) ∧
  (∀ ls st H, aGo cl none cd_68 0 12 ls st H = aNul (fun p st => aGo cl none cd_68 0 p ls st H) 26 15 st) ∧
  (∀ ls st H, aGo cl none cd_68 0 15 ls st H = aRLoad (fun st => aGo cl none cd_68 0 16 ls st H) ls 0 st) ∧
  (∀ ls st H, aGo cl none cd_68 0 16 ls st H = aRLoad (fun st => aGo cl none cd_68 0 18 ls st H) ls 4 st) ∧
  (∀ ls st H, aGo cl none cd_68 0 18 ls st H = aILoad (fun st => aGo cl none cd_68 0 19 ls st H) ls 2 st) ∧
  (∀ ls st H, aGo cl none cd_68 0 19 ls st H = aILoad (fun st => aGo cl none cd_68 0 20 ls st H) ls 3 st) ∧
  (∀ ls st H, aGo cl none cd_68 0 20 ls st H = aCallV (fun st H => aGo cl none cd_68 0 23 ls st H) cl 109 3 7 H st) ∧
  (∀ ls st H, aGo cl none cd_68 0 23 ls st H = aIf (fun p st => aGo cl none cd_68 0 p ls st H) .ne 33 26 st) ∧
  (∀ ls st H, aGo cl none cd_68 0 26 ls st H = aRLoad (fun st => aGo cl none cd_68 0 27 ls st H) ls 0 st) ∧
  (∀ ls st H, aGo cl none cd_68 0 27 ls st H = aGo cl none cd_68 0 29 ls (.int (-1000000001) :: st) H) ∧
  (∀ ls st H, aGo cl none cd_68 0 29 ls st H = aCallV (fun st H => aGo cl none cd_68 0 32 ls st H) cl 105 1 7 H st) ∧
  (∀ ls st H, aGo cl none cd_68 0 32 ls st H = aIret 0 st H) ∧
  (∀ ls st H, aGo cl none cd_68 0 33 ls st H = aILoad (fun st => aGo cl none cd_68 0 34 ls st H) ls 2 st) ∧
  (∀ ls st H, aGo cl none cd_68 0 34 ls st H = aSwS (fun p st => aGo cl none cd_68 0 p ls st H) [(0, 60), (1, 76)] 92 st) ∧
  (∀ ls st H, aGo cl none cd_68 0 60 ls st H = aRLoad (fun st => aGo cl none cd_68 0 62 ls st H) ls 4 st) ∧
  (∀ ls st H, aGo cl none cd_68 0 62 ls st H = aGet (fun st => aGo cl none cd_68 0 65 ls st H) 2 3 H st) ∧
  (∀ ls st H, aGo cl none cd_68 0 65 ls st H = aIStore (fun ls st => aGo cl none cd_68 0 67 ls st H) ls 5 st) ∧
  (∀ ls st H, aGo cl none cd_68 0 67 ls st H = aRLoad (fun st => aGo cl none cd_68 0 69 ls st H) ls 4 st) ∧
  (∀ ls st H, aGo cl none cd_68 0 69 ls st H = aILoad (fun st => aGo cl none cd_68 0 70 ls st H) ls 3 st) ∧
  (∀ ls st H, aGo cl none cd_68 0 70 ls st H = aPut (fun st H => aGo cl none cd_68 0 73 ls st H) 2 3 H st) ∧
  (∀ ls st H, aGo cl none cd_68 0 73 ls st H = aILoad (fun st => aGo cl none cd_68 0 75 ls st H) ls 5 st) ∧
  (∀ ls st H, aGo cl none cd_68 0 75 ls st H = aIret 0 st H) ∧
  (∀ ls st H, aGo cl none cd_68 0 76 ls st H = aRLoad (fun st => aGo cl none cd_68 0 78 ls st H) ls 4 st) ∧
  (∀ ls st H, aGo cl none cd_68 0 78 ls st H = aGet (fun st => aGo cl none cd_68 0 81 ls st H) 2 4 H st) ∧
  (∀ ls st H, aGo cl none cd_68 0 81 ls st H = aIStore (fun ls st => aGo cl none cd_68 0 83 ls st H) ls 5 st) ∧
  (∀ ls st H, aGo cl none cd_68 0 83 ls st H = aRLoad (fun st => aGo cl none cd_68 0 85 ls st H) ls 4 st) ∧
  (∀ ls st H, aGo cl none cd_68 0 85 ls st H = aILoad (fun st => aGo cl none cd_68 0 86 ls st H) ls 3 st) ∧
  (∀ ls st H, aGo cl none cd_68 0 86 ls st H = aPut (fun st H => aGo cl none cd_68 0 89 ls st H) 2 4 H st) ∧
  (∀ ls st H, aGo cl none cd_68 0 89 ls st H = aILoad (fun st => aGo cl none cd_68 0 91 ls st H) ls 5 st) ∧
  (∀ ls st H, aGo cl none cd_68 0 91 ls st H = aIret 0 st H) ∧
  (∀ ls st H, aGo cl none cd_68 0 92 ls st H = aRLoad (fun st => aGo cl none cd_68 0 94 ls st H) ls 4 st) ∧
  (∀ ls st H, aGo cl none cd_68 0 94 ls st H = aGet (fun st => aGo cl none cd_68 0 97 ls st H) 2 5 H st) ∧
  (∀ ls st H, aGo cl none cd_68 0 97 ls st H = aIStore (fun ls st => aGo cl none cd_68 0 99 ls st H) ls 5 st) ∧
  (∀ ls st H, aGo cl none cd_68 0 99 ls st H = aRLoad (fun st => aGo cl none cd_68 0 101 ls st H) ls 4 st) ∧
  (∀ ls st H, aGo cl none cd_68 0 101 ls st H = aILoad (fun st => aGo cl none cd_68 0 102 ls st H) ls 3 st) ∧
  (∀ ls st H, aGo cl none cd_68 0 102 ls st H = aPut (fun st H => aGo cl none cd_68 0 105 ls st H) 2 5 H st) ∧
  (∀ ls st H, aGo cl none cd_68 0 105 ls st H = aILoad (fun st => aGo cl none cd_68 0 107 ls st H) ls 5 st) ∧
  (∀ ls st H, aGo cl none cd_68 0 107 ls st H = aIret 0 st H) :=
  ⟨fun _ _ _ => (aGo_s rfl).trans rfl, fun _ _ _ => (aGo_s rfl).trans rfl, fun _ _ _ => (aGo_s rfl).trans rfl, fun _ _ _ => (aGo_s rfl).trans rfl, fun _ _ _ => (aGo_s rfl).trans rfl, fun _ _ _ => (aGo_s rfl).trans rfl, fun _ _ _ => (aGo_s rfl).trans rfl, fun _ _ _ => (aGo_s rfl).trans rfl, fun _ _ _ => (aGo_s rfl).trans rfl, fun _ _ _ => (aGo_s rfl).trans rfl, fun _ _ _ => (aGo_s rfl).trans rfl, fun _ _ _ => (aGo_s rfl).trans rfl, fun _ _ _ => (aGo_s rfl).trans rfl, fun _ _ _ => (aGo_s rfl).trans rfl, fun _ _ _ => (aGo_s rfl).trans rfl, fun _ _ _ => (aGo_s rfl).trans rfl, fun _ _ _ => (aGo_s rfl).trans rfl, fun _ _ _ => (aGo_s rfl).trans rfl, fun _ _ _ => (aGo_s rfl).trans rfl, fun _ _ _ => (aGo_s rfl).trans rfl, fun _ _ _ => (aGo_s rfl).trans rfl, fun _ _ _ => (aGo_s rfl).trans rfl, fun _ _ _ => (aGo_s rfl).trans rfl, fun _ _ _ => (aGo_s rfl).trans rfl, fun _ _ _ => (aGo_s rfl).trans rfl, fun _ _ _ => (aGo_s rfl).trans rfl, fun _ _ _ => (aGo_s rfl).trans rfl, fun _ _ _ => (aGo_s rfl).trans rfl, fun _ _ _ => (aGo_s rfl).trans rfl, fun _ _ _ => (aGo_s rfl).trans rfl, fun _ _ _ => (aGo_s rfl).trans rfl, fun _ _ _ => (aGo_s rfl).trans rfl, fun _ _ _ => (aGo_s rfl).trans rfl, fun _ _ _ => (aGo_s rfl).trans rfl, fun _ _ _ => (aGo_s rfl).trans rfl, fun _ _ _ => (aGo_s rfl).trans rfl, fun _ _ _ => (aGo_s rfl).trans rfl, fun _ _ _ => (aGo_s rfl).trans rfl, fun _ _ _ => (aGo_s rfl).trans rfl, fun _ _ _ => (aGo_s rfl).trans rfl, fun _ _ _ => (aGo_s rfl).trans rfl, fun _ _ _ => (aGo_s rfl).trans rfl, fun _ _ _ => (aGo_s rfl).trans rfl⟩
theorem e_68 {d : Nat} {x0 : Nat} {x1 : Int32} {x2 : Int32} {x3 : Int32} {H : aH} : aCall aMt (d + 1) 68 [.ref x0, .int x1, .int x2, .int x3] H = aGo (aCall aMt d) none cd_68 0 0 [some (.ref x0), some (.int x1), some (.int x2), some (.int x3), none, none] [] H := (c_0 rfl ⟨rfl, Nat.le_of_ble_eq_true rfl, Nat.le_of_ble_eq_true rfl⟩).trans rfl
theorem s_69 {cl : Nat → List Value → aH → aRs} : (∀ ls st H, aGo cl none cd_69 0 0 ls st H = aRLoad (fun st => aGo cl none cd_69 0 1 ls st H) ls 0 st) ∧
  (∀ ls st H, aGo cl none cd_69 0 1 ls st H = aGet (fun st => aGo cl none cd_69 0 4 ls st H) 7 0 H st) ∧
  (∀ ls st H, aGo cl none cd_69 0 4 ls st H = aILoad (fun st => aGo cl none cd_69 0 5 ls st H) ls 1 st) ∧
  (∀ ls st H, aGo cl none cd_69 0 5 ls st H = aCallV (fun st H => aGo cl none cd_69 0 8 ls st H) cl 2 1 0 H st) ∧
  (∀ ls st H, aGo cl none cd_69 0 8 ls st H = aNul (fun p st => aGo cl none cd_69 0 p ls st H) 40 11 st) ∧
  (∀ ls st H, aGo cl none cd_69 0 11 ls st H = aILoad (fun st => aGo cl none cd_69 0 12 ls st H) ls 2 st) ∧
  (∀ ls st H, aGo cl none cd_69 0 12 ls st H = aGo cl none cd_69 0 13 ls (.int 0 :: st) H) ∧
  (∀ ls st H, aGo cl none cd_69 0 13 ls st H = aGo cl none cd_69 0 14 ls (.int 2 :: st) H) ∧
  (∀ ls st H, aGo cl none cd_69 0 14 ls st H = aCallI (fun st H => aGo cl none cd_69 0 17 ls st H) cl 106 3 H st) ∧
  (∀ ls st H, aGo cl none cd_69 0 17 ls st H = aIf (fun p st => aGo cl none cd_69 0 p ls st H) .eq 40 20 st) ∧
  (∀ ls st H, aGo cl none cd_69 0 20 ls st H = aILoad (fun st => aGo cl none cd_69 0 21 ls st H) ls 3 st) ∧
  (∀ ls st H, aGo cl none cd_69 0 21 ls st H = aGo cl none cd_69 0 22 ls (.int 0 :: st) H) ∧
  (∀ ls st H, aGo cl none cd_69 0 22 ls st H = aGo cl none cd_69 0 23 ls (.int 3 :: st) H) ∧
  (∀ ls st H, aGo cl none cd_69 0 23 ls st H = aCallI (fun st H => aGo cl none cd_69 0 26 ls st H) cl 106 3 H st) ∧
  (∀ ls st H, aGo cl none cd_69 0 26 ls st H = aIf (fun p st => aGo cl none cd_69 0 p ls st H) .eq 40 29 st) ∧
  (∀ ls st H, aGo cl none cd_69 0 29 ls st H = aILoad (fun st => aGo cl none cd_69 0 31 ls st H) ls 4 st) ∧
  (∀ ls st H, aGo cl none cd_69 0 31 ls st H = aGo cl none cd_69 0 32 ls (.int 0 :: st) H) ∧
  (∀ ls st H, aGo cl none cd_69 0 32 ls st H = aGo cl none cd_69 0 34 ls (.int 9 :: st) H) ∧
  (∀ ls st H, aGo cl none cd_69 0 34 ls st H = aCallI (fun st H => aGo cl none cd_69 0 37 ls st H) cl 106 3 H st) ∧
  (∀ ls st H, aGo cl none cd_69 0 37 ls st H = aIf (fun p st => aGo cl none cd_69 0 p ls st H) .ne 47 40 st) ∧
  (∀ ls st H, aGo cl none cd_69 0 40 ls st H = aRLoad (fun st => aGo cl none cd_69 0 41 ls st H) ls 0 st) ∧
  (∀ ls st H, aGo cl none cd_69 0 41 ls st H = aGo cl none cd_69 0 43 ls (.int (-1000000001) :: st) H) ∧
  (∀ ls st H, aGo cl none cd_69 0 43 ls st H = aCallV (fun st H => aGo cl none cd_69 0 46 ls st H) cl 105 1 7 H st) ∧
  (∀ ls st H, aGo cl none cd_69 0 46 ls st H = aIret 0 st H) ∧
  (∀ ls st H, aGo cl none cd_69 0 47 ls st H = aRLoad (fun st => aGo cl none cd_69 0 48 ls st H) ls 0 st) ∧
  (∀ ls st H, aGo cl none cd_69 0 48 ls st H = aGet (fun st => aGo cl none cd_69 0 51 ls st H) 7 0 H st) ∧
  (∀ ls st H, aGo cl none cd_69 0 51 ls st H = aGet (fun st => aGo cl none cd_69 0 54 ls st H) 0 7 H st) ∧
  (∀ ls st H, aGo cl none cd_69 0 54 ls st H = aGo cl none cd_69 0 56 ls (.int 10 :: st) H) ∧
  (∀ ls st H, aGo cl none cd_69 0 56 ls st H = aIc (fun p st => aGo cl none cd_69 0 p ls st H) .lt 66 59 st) ∧
  (∀ ls st H, aGo cl none cd_69 0 59 ls st H = aRLoad (fun st => aGo cl none cd_69 0 60 ls st H) ls 0 st) ∧
  (∀ ls st H, aGo cl none cd_69 0 60 ls st H = aGo cl none cd_69 0 62 ls (.int (-1000000004) :: st) H) ∧
  (∀ ls st H, aGo cl none cd_69 0 62 ls st H = aCallV (fun st H => aGo cl none cd_69 0 65 ls st H) cl 105 1 7 H st) ∧
  (∀ ls st H, aGo cl none cd_69 0 65 ls st H = aIret 0 st H) ∧
  (∀ ls st H, aGo cl none cd_69 0 66 ls st H = aRLoad (fun st => aGo cl none cd_69 0 67 ls st H) ls 0 st) ∧
  (∀ ls st H, aGo cl none cd_69 0 67 ls st H = aGet (fun st => aGo cl none cd_69 0 70 ls st H) 7 0 H st) ∧
  (∀ ls st H, aGo cl none cd_69 0 70 ls st H = aGet (fun st => aGo cl none cd_69 0 73 ls st H) 0 7 H st) ∧
  (∀ ls st H, aGo cl none cd_69 0 73 ls st H = aIStore (fun ls st => aGo cl none cd_69 0 75 ls st H) ls 5 st) ∧
  (∀ ls st H, aGo cl none cd_69 0 75 ls st H = aRLoad (fun st => aGo cl none cd_69 0 76 ls st H) ls 0 st) ∧
  (∀ ls st H, aGo cl none cd_69 0 76 ls st H = aGet (fun st => aGo cl none cd_69 0 79 ls st H) 7 0 H st) ∧
  (∀ ls st H, aGo cl none cd_69 0 79 ls st H = aGet (fun st => aGo cl none cd_69 0 82 ls st H) 0 1 H st) ∧
  (∀ ls st H, aGo cl none cd_69 0 82 ls st H = aILoad (fun st => aGo cl none cd_69 0 84 ls st H) ls 5 st) ∧
  (∀ ls st H, aGo cl none cd_69 0 84 ls st H = aAald (fun st => aGo cl none cd_69 0 85 ls st H) H st) ∧
  (∀ ls st H, aGo cl none cd_69 0 85 ls st H = aILoad (fun st => aGo cl none cd_69 0 86 ls st H) ls 1 st) ∧
  (∀ ls st H, aGo cl none cd_69 0 86 ls st H = aILoad (fun st => aGo cl none cd_69 0 87 ls st H) ls 2 st) ∧
  (∀ ls st H, aGo cl none cd_69 0 87 ls st H = aILoad (fun st => aGo cl none cd_69 0 88 ls st H) ls 3 st) ∧
  (∀ ls st H, aGo cl none cd_69 0 88 ls st H = aILoad (fun st => aGo cl none cd_69 0 90 ls st H) ls 4 st) ∧
  (∀ ls st H, aGo cl none cd_69 0 90 ls st H = aCallV (fun st H => aGo cl none cd_69 0 93 ls st H) cl 51 4 5 H st) ∧
  (∀ ls st H, aGo cl none cd_69 0 93 ls st H = aRLoad (fun st => aGo cl none cd_69 0 94 ls st H) ls 0 st) ∧
  (∀ ls st H, aGo cl none cd_69 0 94 ls st H = aGet (fun st => aGo cl none cd_69 0 97 ls st H) 7 0 H st) ∧
  (∀ ls st H, aGo cl none cd_69 0 97 ls st H = aDup (fun st => aGo cl none cd_69 0 98 ls st H) st) ∧
  (∀ ls st H, aGo cl none cd_69 0 98 ls st H = aGet (fun st => aGo cl none cd_69 0 101 ls st H) 0 7 H st) ∧
  (∀ ls st H, aGo cl none cd_69 0 101 ls st H = aGo cl none cd_69 0 102 ls (.int 1 :: st) H) ∧
  (∀ ls st H, aGo cl none cd_69 0 102 ls st H = aBin (fun st => aGo cl none cd_69 0 103 ls st H) (fun x y => x + y) st) ∧
  (∀ ls st H, aGo cl none cd_69 0 103 ls st H = aPut (fun st H => aGo cl none cd_69 0 106 ls st H) 0 7 H st) ∧
  (∀ ls st H, aGo cl none cd_69 0 106 ls st H = aILoad (fun st => aGo cl none cd_69 0 108 ls st H) ls 5 st) ∧
  (∀ ls st H, aGo cl none cd_69 0 108 ls st H = aIret 0 st H) :=
  ⟨fun _ _ _ => (aGo_s rfl).trans rfl, fun _ _ _ => (aGo_s rfl).trans rfl, fun _ _ _ => (aGo_s rfl).trans rfl, fun _ _ _ => (aGo_s rfl).trans rfl, fun _ _ _ => (aGo_s rfl).trans rfl, fun _ _ _ => (aGo_s rfl).trans rfl, fun _ _ _ => (aGo_s rfl).trans rfl, fun _ _ _ => (aGo_s rfl).trans rfl, fun _ _ _ => (aGo_s rfl).trans rfl, fun _ _ _ => (aGo_s rfl).trans rfl, fun _ _ _ => (aGo_s rfl).trans rfl, fun _ _ _ => (aGo_s rfl).trans rfl, fun _ _ _ => (aGo_s rfl).trans rfl, fun _ _ _ => (aGo_s rfl).trans rfl, fun _ _ _ => (aGo_s rfl).trans rfl, fun _ _ _ => (aGo_s rfl).trans rfl, fun _ _ _ => (aGo_s rfl).trans rfl, fun _ _ _ => (aGo_s rfl).trans rfl, fun _ _ _ => (aGo_s rfl).trans rfl, fun _ _ _ => (aGo_s rfl).trans rfl, fun _ _ _ => (aGo_s rfl).trans rfl, fun _ _ _ => (aGo_s rfl).trans rfl, fun _ _ _ => (aGo_s rfl).trans rfl, fun _ _ _ => (aGo_s rfl).trans rfl, fun _ _ _ => (aGo_s rfl).trans rfl, fun _ _ _ => (aGo_s rfl).trans rfl, fun _ _ _ => (aGo_s rfl).trans rfl, fun _ _ _ => (aGo_s rfl).trans rfl, fun _ _ _ => (aGo_s rfl).trans rfl, fun _ _ _ => (aGo_s rfl).trans rfl, fun _ _ _ => (aGo_s rfl).trans rfl, fun _ _ _ => (aGo_s rfl).trans rfl, fun _ _ _ => (aGo_s rfl).trans rfl, fun _ _ _ => (aGo_s rfl).trans rfl, fun _ _ _ => (aGo_s rfl).trans rfl, fun _ _ _ => (aGo_s rfl).trans rfl, fun _ _ _ => (aGo_s rfl).trans rfl, fun _ _ _ => (aGo_s rfl).trans rfl, fun _ _ _ => (aGo_s rfl).trans rfl, fun _ _ _ => (aGo_s rfl).trans rfl, fun _ _ _ => (aGo_s rfl).trans rfl, fun _ _ _ => (aGo_s rfl).trans rfl, fun _ _ _ => (aGo_s rfl).trans rfl, fun _ _ _ => (aGo_s rfl).trans rfl, fun _ _ _ => (aGo_s rfl).trans rfl, fun _ _ _ => (aGo_s rfl).trans rfl, fun _ _ _ => (aGo_s rfl).trans rfl, fun _ _ _ => (aGo_s rfl).trans rfl, fun _ _ _ => (aGo_s rfl).trans rfl, fun _ _ _ => (aGo_s rfl).trans rfl, fun _ _ _ => (aGo_s rfl).trans rfl, fun _ _ _ => (aGo_s rfl).trans rfl, fun _ _ _ => (aGo_s rfl).trans rfl, fun _ _ _ => (aGo_s rfl).trans rfl, fun _ _ _ => (aGo_s rfl).trans rfl, fun _ _ _ => (aGo_s rfl).trans rfl⟩
theorem e_69 {d : Nat} {x0 : Nat} {x1 : Int32} {x2 : Int32} {x3 : Int32} {x4 : Int32} {H : aH} : aCall aMt (d + 1) 69 [.ref x0, .int x1, .int x2, .int x3, .int x4] H = aGo (aCall aMt d) none cd_69 0 0 [some (.ref x0), some (.int x1), some (.int x2), some (.int x3), some (.int x4), none] [] H := (c_0 rfl ⟨rfl, Nat.le_of_ble_eq_true rfl, Nat.le_of_ble_eq_true rfl⟩).trans rfl
theorem s_70 {cl : Nat → List Value → aH → aRs} : (∀ ls st H, aGo cl none cd_70 0 0 ls st H = aRLoad (fun st => aGo cl none cd_70 0 1 ls st H) ls 0 st) ∧
  (∀ ls st H, aGo cl none cd_70 0 1 ls st H = aGet (fun st => aGo cl none cd_70 0 4 ls st H) 7 0 H st) ∧
  (∀ ls st H, aGo cl none cd_70 0 4 ls st H = aILoad (fun st => aGo cl none cd_70 0 5 ls st H) ls 1 st) ∧
  (∀ ls st H, aGo cl none cd_70 0 5 ls st H = aCallV (fun st H => aGo cl none cd_70 0 8 ls st H) cl 3 1 0 H st) ∧
  (∀ ls st H, aGo cl none cd_70 0 8 ls st H = aRStore (fun ls st => aGo cl none cd_70 0 9 ls st H) ls 3 st) ∧
  (∀ ls st H, aGo cl none cd_70 0 9 ls st H = aRLoad (fun st => aGo cl none cd_70 0 10 ls st H) ls 3 st) ∧
  (∀ ls st H, aGo cl none cd_70 0 10 ls st H = aNul (fun p st => aGo cl none cd_70 0 p ls st H) 13 20 st) ∧
  (∀ ls st H, aGo cl none cd_70 0 13 ls st H = aRLoad (fun st => aGo cl none cd_70 0 14 ls st H) ls 0 st) ∧
  (∀ ls st H, aGo cl none cd_70 0 14 ls st H = aGo cl none cd_70 0 16 ls (.int (-1000000001) :: st) H) ∧
  (∀ ls st H, aGo cl none cd_70 0 16 ls st H = aCallV (fun st H => aGo cl none cd_70 0 19 ls st H) cl 105 1 7 H st) ∧
  (∀ ls st H, aGo cl none cd_70 0 19 ls st H = aIret 0 st H) ∧
  (∀ ls st H, aGo cl none cd_70 0 20 ls st H = aILoad (fun st => aGo cl none cd_70 0 21 ls st H) ls 2 st) ∧
  (∀ ls st H, aGo cl none cd_70 0 21 ls st H = aSwS (fun p st => aGo cl none cd_70 0 p ls st H) [(0, 68), (1, 73), (2, 78), (3, 83), (4, 88), (5, 101), (6, 106), (7, 111)] 120 st) ∧
  (∀ ls st H, aGo cl none cd_70 0 68 ls st H = aRLoad (fun st => aGo cl none cd_70 0 69 ls st H) ls 3 st) ∧
  (∀ ls st H, aGo cl none cd_70 0 69 ls st H = aGet (fun st => aGo cl none cd_70 0 72 ls st H) 5 0 H st) ∧
  (∀ ls st H, aGo cl none cd_70 0 72 ls st H = aIret 0 st H) ∧
  (∀ ls st H, aGo cl none cd_70 0 73 ls st H = aRLoad (fun st => aGo cl none cd_70 0 74 ls st H) ls 3 st) ∧
  (∀ ls st H, aGo cl none cd_70 0 74 ls st H = aGet (fun st => aGo cl none cd_70 0 77 ls st H) 5 1 H st) ∧
  (∀ ls st H, aGo cl none cd_70 0 77 ls st H = aIret 0 st H) ∧
  (∀ ls st H, aGo cl none cd_70 0 78 ls st H = aRLoad (fun st => aGo cl none cd_70 0 79 ls st H) ls 3 st) ∧
  (∀ ls st H, aGo cl none cd_70 0 79 ls st H = aGet (fun st => aGo cl none cd_70 0 82 ls st H) 5 2 H st) ∧
  (∀ ls st H, aGo cl none cd_70 0 82 ls st H = aIret 0 st H) ∧
  (∀ ls st H, aGo cl none cd_70 0 83 ls st H = aRLoad (fun st => aGo cl none cd_70 0 84 ls st H) ls 3 st) ∧
  (∀ ls st H, aGo cl none cd_70 0 84 ls st H = aGet (fun st => aGo cl none cd_70 0 87 ls st H) 5 3 H st) ∧
  (∀ ls st H, aGo cl none cd_70 0 87 ls st H = aIret 0 st H) ∧
  (∀ ls st H, aGo cl none cd_70 0 88 ls st H = aRLoad (fun st => aGo cl none cd_70 0 89 ls st H) ls 3 st) ∧
  (∀ ls st H, aGo cl none cd_70 0 89 ls st H = aGet (fun st => aGo cl none cd_70 0 92 ls st H) 5 5 H st) ∧
  (∀ ls st H, aGo cl none cd_70 0 92 ls st H = aIf (fun p st => aGo cl none cd_70 0 p ls st H) .eq 99 95 st) ∧
  (∀ ls st H, aGo cl none cd_70 0 95 ls st H = aGo cl none cd_70 0 96 ls (.int 1 :: st) H) ∧
  (∀ ls st H, aGo cl none cd_70 0 96 ls st H = aGo cl none cd_70 0 100 ls st H) ∧
  (∀ ls st H, aGo cl none cd_70 0 99 ls st H = aGo cl none cd_70 0 100 ls (.int 0 :: st) H) ∧
  (∀ ls st H, aGo cl none cd_70 0 100 ls st H = aIret 0 st H) ∧
  (∀ ls st H, aGo cl none cd_70 0 101 ls st H = aRLoad (fun st => aGo cl none cd_70 0 102 ls st H) ls 3 st) ∧
  (∀ ls st H, aGo cl none cd_70 0 102 ls st H = aGet (fun st => aGo cl none cd_70 0 105 ls st H) 5 6 H st) ∧
  (∀ ls st H, aGo cl none cd_70 0 105 ls st H = aIret 0 st H) ∧
  (∀ ls st H, aGo cl none cd_70 0 106 ls st H = aRLoad (fun st => aGo cl none cd_70 0 107 ls st H) ls 3 st) ∧
  (∀ ls st H, aGo cl none cd_70 0 107 ls st H = aGet (fun st => aGo cl none cd_70 0 110 ls st H) 5 4 H st) ∧
  (∀ ls st H, aGo cl none cd_70 0 110 ls st H = aIret 0 st H) ∧
  (∀ ls st H, aGo cl none cd_70 0 111 ls st H = aRLoad (fun st => aGo cl none cd_70 0 112 ls st H) ls 0 st) ∧
  (∀ ls st H, aGo cl none cd_70 0 112 ls st H = aGet (fun st => aGo cl none cd_70 0 115 ls st H) 7 0 H st) ∧
  (∀ ls st H, aGo cl none cd_70 0 115 ls st H = aRLoad (fun st => aGo cl none cd_70 0 116 ls st H) ls 3 st) ∧
  (∀ ls st H, aGo cl none cd_70 0 116 ls st H = aCallV (fun st H => aGo cl none cd_70 0 119 ls st H) cl 7 1 0 H st) ∧
  (∀ ls st H, aGo cl none cd_70 0 119 ls st H = aIret 0 st H) ∧
  (∀ ls st H, aGo cl none cd_70 0 120 ls st H = aRLoad (fun st => aGo cl none cd_70 0 121 ls st H) ls 0 st) ∧
  (∀ ls st H, aGo cl none cd_70 0 121 ls st H = aGo cl none cd_70 0 123 ls (.int (-1000000001) :: st) H) ∧
  (∀ ls st H, aGo cl none cd_70 0 123 ls st H = aCallV (fun st H => aGo cl none cd_70 0 126 ls st H) cl 105 1 7 H st) ∧
  (∀ ls st H, aGo cl none cd_70 0 126 ls st H = aIret 0 st H) :=
  ⟨fun _ _ _ => (aGo_s rfl).trans rfl, fun _ _ _ => (aGo_s rfl).trans rfl, fun _ _ _ => (aGo_s rfl).trans rfl, fun _ _ _ => (aGo_s rfl).trans rfl, fun _ _ _ => (aGo_s rfl).trans rfl, fun _ _ _ => (aGo_s rfl).trans rfl, fun _ _ _ => (aGo_s rfl).trans rfl, fun _ _ _ => (aGo_s rfl).trans rfl, fun _ _ _ => (aGo_s rfl).trans rfl, fun _ _ _ => (aGo_s rfl).trans rfl, fun _ _ _ => (aGo_s rfl).trans rfl, fun _ _ _ => (aGo_s rfl).trans rfl, fun _ _ _ => (aGo_s rfl).trans rfl, fun _ _ _ => (aGo_s rfl).trans rfl, fun _ _ _ => (aGo_s rfl).trans rfl, fun _ _ _ => (aGo_s rfl).trans rfl, fun _ _ _ => (aGo_s rfl).trans rfl, fun _ _ _ => (aGo_s rfl).trans rfl, fun _ _ _ => (aGo_s rfl).trans rfl, fun _ _ _ => (aGo_s rfl).trans rfl, fun _ _ _ => (aGo_s rfl).trans rfl, fun _ _ _ => (aGo_s rfl).trans rfl, fun _ _ _ => (aGo_s rfl).trans rfl, fun _ _ _ => (aGo_s rfl).trans rfl, fun _ _ _ => (aGo_s rfl).trans rfl, fun _ _ _ => (aGo_s rfl).trans rfl, fun _ _ _ => (aGo_s rfl).trans rfl, fun _ _ _ => (aGo_s rfl).trans rfl, fun _ _ _ => (aGo_s rfl).trans rfl, fun _ _ _ => (aGo_s rfl).trans rfl, fun _ _ _ => (aGo_s rfl).trans rfl, fun _ _ _ => (aGo_s rfl).trans rfl, fun _ _ _ => (aGo_s rfl).trans rfl, fun _ _ _ => (aGo_s rfl).trans rfl, fun _ _ _ => (aGo_s rfl).trans rfl, fun _ _ _ => (aGo_s rfl).trans rfl, fun _ _ _ => (aGo_s rfl).trans rfl, fun _ _ _ => (aGo_s rfl).trans rfl, fun _ _ _ => (aGo_s rfl).trans rfl, fun _ _ _ => (aGo_s rfl).trans rfl, fun _ _ _ => (aGo_s rfl).trans rfl, fun _ _ _ => (aGo_s rfl).trans rfl, fun _ _ _ => (aGo_s rfl).trans rfl, fun _ _ _ => (aGo_s rfl).trans rfl, fun _ _ _ => (aGo_s rfl).trans rfl, fun _ _ _ => (aGo_s rfl).trans rfl, fun _ _ _ => (aGo_s rfl).trans rfl⟩
theorem e_70 {d : Nat} {x0 : Nat} {x1 : Int32} {x2 : Int32} {H : aH} : aCall aMt (d + 1) 70 [.ref x0, .int x1, .int x2] H = aGo (aCall aMt d) none cd_70 0 0 [some (.ref x0), some (.int x1), some (.int x2), none] [] H := (c_0 rfl ⟨rfl, Nat.le_of_ble_eq_true rfl, Nat.le_of_ble_eq_true rfl⟩).trans rfl
theorem s_71 {cl : Nat → List Value → aH → aRs} : (∀ ls st H, aGo cl none cd_71 0 0 ls st H = aRLoad (fun st => aGo cl none cd_71 0 1 ls st H) ls 0 st) ∧
  (∀ ls st H, aGo cl none cd_71 0 1 ls st H = aGet (fun st => aGo cl none cd_71 0 4 ls st H) 7 0 H st) ∧
  (∀ ls st H, aGo cl none cd_71 0 4 ls st H = aILoad (fun st => aGo cl none cd_71 0 5 ls st H) ls 1 st) ∧
  (∀ ls st H, aGo cl none cd_71 0 5 ls st H = aCallV (fun st H => aGo cl none cd_71 0 8 ls st H) cl 3 1 0 H st) ∧
  (∀ ls st H, aGo cl none cd_71 0 8 ls st H = aRStore (fun ls st => aGo cl none cd_71 0 10 ls st H) ls 4 st) ∧
  (∀ ls st H, aGo cl none cd_71 0 10 ls st H = aRLoad (fun st => aGo cl none cd_71 0 12 ls st H) ls 4 st) ∧
  (∀ ls st H, aGo cl none cd_71 0 12 ls st H = aNul (fun p st => aGo cl none cd_71 0 p ls st H) 42 15 st) ∧
  (∀ ls st H, aGo cl none cd_71 0 15 ls st H = aILoad (fun st => aGo cl none cd_71 0 16 ls st H) ls 2 st) ∧
  (∀ ls st H, aGo cl none cd_71 0 16 ls st H = aGo cl none cd_71 0 17 ls (.int 0 :: st) H) ∧
  (∀ ls st H, aGo cl none cd_71 0 17 ls st H = aGo cl none cd_71 0 20 ls (.ref 1001 :: st) H) ∧
  (∀ ls st H, aGo cl none cd_71 0 20 ls st H = aAlen (fun st => aGo cl none cd_71 0 21 ls st H) none H st) ∧
  (∀ ls st H, aGo cl none cd_71 0 21 ls st H = aGo cl none cd_71 0 22 ls (.int 1 :: st) H) ∧
  (∀ ls st H, aGo cl none cd_71 0 22 ls st H = aBin (fun st => aGo cl none cd_71 0 23 ls st H) (fun x y => x - y) st) ∧
  (∀ ls st H, aGo cl none cd_71 0 23 ls st H = aCallI (fun st H => aGo cl none cd_71 0 26 ls st H) cl 106 3 H st) ∧
  (∀ ls st H, aGo cl none cd_71 0 26 ls st H = aIf (fun p st => aGo cl none cd_71 0 p ls st H) .eq 42 29 st) ∧
  (∀ ls st H, aGo cl none cd_71 0 29 ls st H = aILoad (fun st => aGo cl none cd_71 0 30 ls st H) ls 3 st) ∧
  (∀ ls st H, aGo cl none cd_71 0 30 ls st H = aGo cl none cd_71 0 31 ls (.int 0 :: st) H) ∧
  (∀ ls st H, aGo cl none cd_71 0 31 ls st H = aGo cl none cd_71 0 34 ls (.ref 1001 :: st) H) ∧
  (∀ ls st H, aGo cl none cd_71 0 34 ls st H = aILoad (fun st => aGo cl none cd_71 0 35 ls st H) ls 2 st) ∧
  (∀ ls st H, aGo cl none cd_71 0 35 ls st H = aIald (fun st => aGo cl none cd_71 0 36 ls st H) none H st) ∧
  (∀ ls st H, aGo cl none cd_71 0 36 ls st H = aCallI (fun st H => aGo cl none cd_71 0 39 ls st H) cl 106 3 H st) ∧
  (∀ ls st H, aGo cl none cd_71 0 39 ls st H = aIf (fun p st => aGo cl none cd_71 0 p ls st H) .ne 49 42 st) ∧
  (∀ ls st H, aGo cl none cd_71 0 42 ls st H = aRLoad (fun st => aGo cl none cd_71 0 43 ls st H) ls 0 st) ∧
  (∀ ls st H, aGo cl none cd_71 0 43 ls st H = aGo cl none cd_71 0 45 ls (.int (-1000000001) :: st) H) ∧
  (∀ ls st H, aGo cl none cd_71 0 45 ls st H = aCallV (fun st H => aGo cl none cd_71 0 48 ls st H) cl 105 1 7 H st) ∧
  (∀ ls st H, aGo cl none cd_71 0 48 ls st H = aIret 0 st H) ∧
  (∀ ls st H, aGo cl none cd_71 0 49 ls st H = aRLoad (fun st => aGo cl none cd_71 0 51 ls st H) ls 4 st) ∧
  (∀ ls st H, aGo cl none cd_71 0 51 ls st H = aGet (fun st => aGo cl none cd_71 0 54 ls st H) 5 5 H st) ∧
  (∀ ls st H, aGo cl none cd_71 0 54 ls st H = aIf (fun p st => aGo cl none cd_71 0 p ls st H) .ne 64 57 st) ∧
  (∀ ls st H, aGo cl none cd_71 0 57 ls st H = aRLoad (fun st => aGo cl none cd_71 0 58 ls st H) ls 0 st) ∧
  (∀ ls st H, aGo cl none cd_71 0 58 ls st H = aGo cl none cd_71 0 60 ls (.int (-1000000003) :: st) H) ∧
  (∀ ls st H, aGo cl none cd_71 0 60 ls st H = aCallV (fun st H => aGo cl none cd_71 0 63 ls st H) cl 105 1 7 H st) ∧
  (∀ ls st H, aGo cl none cd_71 0 63 ls st H = aIret 0 st H) ∧
  (∀ ls st H, aGo cl none cd_71 0 64 ls st H = aILoad (fun st => aGo cl none cd_71 0 65 ls st H) ls 2 st) ∧
  (∀ ls st H, aGo cl none cd_71 0 65 ls st H = aSwS (fun p st => aGo cl none cd_71 0 p ls st H) [(0, 92), (1, 108), (2, 124)] 140 st) ∧
  (∀ ls st H, aGo cl none cd_71 0 92 ls st H = aRLoad (fun st => aGo cl none cd_71 0 94 ls st H) ls 4 st) ∧
  (∀ ls st H, aGo cl none cd_71 0 94 ls st H = aGet (fun st => aGo cl none cd_71 0 97 ls st H) 5 1 H st) ∧
  (∀ ls st H, aGo cl none cd_71 0 97 ls st H = aIStore (fun ls st => aGo cl none cd_71 0 99 ls st H) ls 5 st) ∧
  (∀ ls st H, aGo cl none cd_71 0 99 ls st H = aRLoad (fun st => aGo cl none cd_71 0 101 ls st H) ls 4 st) ∧
  (∀ ls st H, aGo cl none cd_71 0 101 ls st H = aILoad (fun st => aGo cl none cd_71 0 102 ls st H) ls 3 st) ∧
  (∀ ls st H, aGo cl none cd_71 0 102 ls st H = aPut (fun st H => aGo cl none cd_71 0 105 ls st H) 5 1 H st) ∧
  (∀ ls st H, aGo cl none cd_71 0 105 ls st H = aILoad (fun st => aGo cl none cd_71 0 107 ls st H) ls 5 st) ∧
  (∀ ls st H, aGo cl none cd_71 0 107 ls st H = aIret 0 st H) ∧
  (∀ ls st H, aGo cl none cd_71 0 108 ls st H = aRLoad (fun st => aGo cl none cd_71 0 110 ls st H) ls 4 st) ∧
  (∀ ls st H, aGo cl none cd_71 0 110 ls st H = aGet (fun st => aGo cl none cd_71 0 113 ls st H) 5 2 H st) ∧
  (∀ ls st H, aGo cl none cd_71 0 113 ls st H = aIStore (fun ls st => aGo cl none cd_71 0 115 ls st H) ls 5 st) ∧
  (∀ ls st H, aGo cl none cd_71 0 115 ls st H = aRLoad (fun st => aGo cl none cd_71 0 117 ls st H) ls 4 st) ∧
  (∀ ls st H, aGo cl none cd_71 0 117 ls st H = aILoad (fun st => aGo cl none cd_71 0 118 ls st H) ls 3 st) ∧
  (∀ ls st H, aGo cl none cd_71 0 118 ls st H = aPut (fun st H => aGo cl none cd_71 0 121 ls st H) 5 2 H st) ∧
  (∀ ls st H, aGo cl none cd_71 0 121 ls st H = aILoad (fun st => aGo cl none cd_71 0 123 ls st H) ls 5 st) ∧
  (∀ ls st H, aGo cl none cd_71 0 123 ls st H = aIret 0 st H) ∧
  (∀ ls st H, aGo cl none cd_71 0 124 ls st H = aRLoad (fun st => aGo cl none cd_71 0 126 ls st H) ls 4 st) ∧
  (∀ ls st H, aGo cl none cd_71 0 126 ls st H = aGet (fun st => aGo cl none cd_71 0 129 ls st H) 5 3 H st) ∧
  (∀ ls st H, aGo cl none cd_71 0 129 ls st H = aIStore (fun ls st => aGo cl none cd_71 0 131 ls st H) ls 5 st) ∧
  (∀ ls st H, aGo cl none cd_71 0 131 ls st H = aRLoad (fun st => aGo cl none cd_71 0 133 ls st H) ls 4 st) ∧
  (∀ ls st H, aGo cl none cd_71 0 133 ls st H = aILoad (fun st => aGo cl none cd_71 0 134 ls st H) ls 3 st) ∧
  (∀ ls st H, aGo cl none cd_71 0 134 ls st H = aPut (fun st H => aGo cl none cd_71 0 137 ls st H) 5 3 H st) ∧
  (∀ ls st H, aGo cl none cd_71 0 137 ls st H = aILoad (fun st => aGo cl none cd_71 0 139 ls st H) ls 5 st) ∧
  (∀ ls st H, aGo cl none cd_71 0 139 ls st H = aIret 0 st H) ∧
  (∀ ls st H, aGo cl none cd_71 0 140 ls st H = aRLoad (fun st => aGo cl none cd_71 0 142 ls st H) ls 4 st) ∧
  (∀ ls st H, aGo cl none cd_71 0 142 ls st H = aGet (fun st => aGo cl none cd_71 0 145 ls st H) 5 4 H st) ∧
  (∀ ls st H, aGo cl none cd_71 0 145 ls st H = aIStore (fun ls st => aGo cl none cd_71 0 147 ls st H) ls 5 st) ∧
  (∀ ls st H, aGo cl none cd_71 0 147 ls st H = aRLoad (fun st => aGo cl none cd_71 0 149 ls st H) ls 4 st) ∧
  (∀ ls st H, aGo cl none cd_71 0 149 ls st H = aILoad (fun st => aGo cl none cd_71 0 150 ls st H) ls 3 st) ∧
  (∀ ls st H, aGo cl none cd_71 0 150 ls st H = aPut (fun st H => aGo cl none cd_71 0 153 ls st H) 5 4 H st) ∧
  (∀ ls st H, aGo cl none cd_71 0 153 ls st H = aILoad (fun st => aGo cl none cd_71 0 155 ls st H) ls 5 st) ∧
  (∀ ls st H, aGo cl none cd_71 0 155 ls st H = aIret 0 st H) :=
  ⟨fun _ _ _ => (aGo_s rfl).trans rfl, fun _ _ _ => (aGo_s rfl).trans rfl, fun _ _ _ => (aGo_s rfl).trans rfl, fun _ _ _ => (aGo_s rfl).trans rfl, fun _ _ _ => (aGo_s rfl).trans rfl, fun _ _ _ => (aGo_s rfl).trans rfl, fun _ _ _ => (aGo_s rfl).trans rfl, fun _ _ _ => (aGo_s rfl).trans rfl, fun _ _ _ => (aGo_s rfl).trans rfl, fun _ _ _ => (aGo_s rfl).trans rfl, fun _ _ _ => (aGo_s rfl).trans rfl, fun _ _ _ => (aGo_s rfl).trans rfl, fun _ _ _ => (aGo_s rfl).trans rfl, fun _ _ _ => (aGo_s rfl).trans rfl, fun _ _ _ => (aGo_s rfl).trans rfl, fun _ _ _ => (aGo_s rfl).trans rfl, fun _ _ _ => (aGo_s rfl).trans rfl, fun _ _ _ => (aGo_s rfl).trans rfl, fun _ _ _ => (aGo_s rfl).trans rfl, fun _ _ _ => (aGo_s rfl).trans rfl, fun _ _ _ => (aGo_s rfl).trans rfl, fun _ _ _ => (aGo_s rfl).trans rfl, fun _ _ _ => (aGo_s rfl).trans rfl, fun _ _ _ => (aGo_s rfl).trans rfl, fun _ _ _ => (aGo_s rfl).trans rfl, fun _ _ _ => (aGo_s rfl).trans rfl, fun _ _ _ => (aGo_s rfl).trans rfl, fun _ _ _ => (aGo_s rfl).trans rfl, fun _ _ _ => (aGo_s rfl).trans rfl, fun _ _ _ => (aGo_s rfl).trans rfl, fun _ _ _ => (aGo_s rfl).trans rfl, fun _ _ _ => (aGo_s rfl).trans rfl, fun _ _ _ => (aGo_s rfl).trans rfl, fun _ _ _ => (aGo_s rfl).trans rfl, fun _ _ _ => (aGo_s rfl).trans rfl, fun _ _ _ => (aGo_s rfl).trans rfl, fun _ _ _ => (aGo_s rfl).trans rfl, fun _ _ _ => (aGo_s rfl).trans rfl, fun _ _ _ => (aGo_s rfl).trans rfl, fun _ _ _ => (aGo_s rfl).trans rfl, fun _ _ _ => (aGo_s rfl).trans rfl, fun _ _ _ => (aGo_s rfl).trans rfl, fun _ _ _ => (aGo_s rfl).trans rfl, fun _ _ _ => (aGo_s rfl).trans rfl, fun _ _ _ => (aGo_s rfl).trans rfl, fun _ _ _ => (aGo_s rfl).trans rfl, fun _ _ _ => (aGo_s rfl).trans rfl, fun _ _ _ => (aGo_s rfl).trans rfl, fun _ _ _ => (aGo_s rfl).trans rfl, fun _ _ _ => (aGo_s rfl).trans rfl, fun _ _ _ => (aGo_s rfl).trans rfl, fun _ _ _ => (aGo_s rfl).trans rfl, fun _ _ _ => (aGo_s rfl).trans rfl, fun _ _ _ => (aGo_s rfl).trans rfl, fun _ _ _ => (aGo_s rfl).trans rfl, fun _ _ _ => (aGo_s rfl).trans rfl, fun _ _ _ => (aGo_s rfl).trans rfl, fun _ _ _ => (aGo_s rfl).trans rfl, fun _ _ _ => (aGo_s rfl).trans rfl, fun _ _ _ => (aGo_s rfl).trans rfl, fun _ _ _ => (aGo_s rfl).trans rfl, fun _ _ _ => (aGo_s rfl).trans rfl, fun _ _ _ => (aGo_s rfl).trans rfl, fun _ _ _ => (aGo_s rfl).trans rfl, fun _ _ _ => (aGo_s rfl).trans rfl, fun _ _ _ => (aGo_s rfl).trans rfl, fun _ _ _ => (aGo_s rfl).trans rfl⟩
theorem e_71 {d : Nat} {x0 : Nat} {x1 : Int32} {x2 : Int32} {x3 : Int32} {H : aH} : aCall aMt (d + 1) 71 [.ref x0, .int x1, .int x2, .int x3] H = aGo (aCall aMt d) none cd_71 0 0 [some (.ref x0), some (.int x1), some (.int x2), some (.int x3), none, none] [] H := (c_0 rfl ⟨rfl, Nat.le_of_ble_eq_true rfl, Nat.le_of_ble_eq_true rfl⟩).trans rfl
theorem s_72 {cl : Nat → List Value → aH → aRs} : (∀ ls st H, aGo cl none cd_72 0 0 ls st H = aRLoad (fun st => aGo cl none cd_72 0 1 ls st H) ls 0 st) ∧
  (∀ ls st H, aGo cl none cd_72 0 1 ls st H = aGet (fun st => aGo cl none cd_72 0 4 ls st H) 7 0 H st) ∧
  (∀ ls st H, aGo cl none cd_72 0 4 ls st H = aILoad (fun st => aGo cl none cd_72 0 5 ls st H) ls 1 st) ∧
  (∀ ls st H, aGo cl none cd_72 0 5 ls st H = aCallV (fun st H => aGo cl none cd_72 0 8 ls st H) cl 3 1 0 H st) ∧
  (∀ ls st H, aGo cl none cd_72 0 8 ls st H = aRStore (fun ls st => aGo cl none cd_72 0 9 ls st H) ls 2 st) ∧
  (∀ ls st H, aGo cl none cd_72 0 9 ls st H = aRLoad (fun st => aGo cl none cd_72 0 10 ls st H) ls 2 st) ∧
  (∀ ls st H, aGo cl none cd_72 0 10 ls st H = aNul (fun p st => aGo cl none cd_72 0 p ls st H) 13 20 st) ∧
  (∀ ls st H, aGo cl none cd_72 0 13 ls st H = aRLoad (fun st => aGo cl none cd_72 0 14 ls st H) ls 0 st) ∧
  (∀ ls st H, aGo cl none cd_72 0 14 ls st H = aGo cl none cd_72 0 16 ls (.int (-1000000001) :: st) H) ∧
  (∀ ls st H, aGo cl none cd_72 0 16 ls st H = aCallV (fun st H => aGo cl none cd_72 0 19 ls st H) cl 105 1 7 H st) ∧
  (∀ ls st H, aGo cl none cd_72 0 19 ls st H = aIret 0 st H) ∧
  (∀ ls st H, aGo cl none cd_72 0 20 ls st H = aRLoad (fun st => aGo cl none cd_72 0 21 ls st H) ls 2 st) ∧
  (∀ ls st H, aGo cl none cd_72 0 21 ls st H = aGet (fun st => aGo cl none cd_72 0 24 ls st H) 5 5 H st) ∧
  (∀ ls st H, aGo cl none cd_72 0 24 ls st H = aIf (fun p st => aGo cl none cd_72 0 p ls st H) .eq 34 27 st) ∧
  (∀ ls st H, aGo cl none cd_72 0 27 ls st H = aRLoad (fun st => aGo cl none cd_72 0 28 ls st H) ls 0 st) ∧
  (∀ ls st H, aGo cl none cd_72 0 28 ls st H = aGo cl none cd_72 0 30 ls (.int (-1000000003) :: st) H) ∧
  (∀ ls st H, aGo cl none cd_72 0 30 ls st H = aCallV (fun st H => aGo cl none cd_72 0 33 ls st H) cl 105 1 7 H st) ∧
  (∀ ls st H, aGo cl none cd_72 0 33 ls st H = aIret 0 st H) ∧
  (∀ ls st H, aGo cl none cd_72 0 34 ls st H = aRLoad (fun st => aGo cl none cd_72 0 35 ls st H) ls 2 st) ∧
  (∀ ls st H, aGo cl none cd_72 0 35 ls st H = aCallV (fun st H => aGo cl none cd_72 0 38 ls st H) cl 55 0 5 H st) ∧
  (∀ ls st H, aGo cl none cd_72 0 38 ls st H = aRLoad (fun st => aGo cl none cd_72 0 39 ls st H) ls 0 st) ∧
  (∀ ls st H, aGo cl none cd_72 0 39 ls st H = aGet (fun st => aGo cl none cd_72 0 42 ls st H) 7 0 H st) ∧
  (∀ ls st H, aGo cl none cd_72 0 42 ls st H = aCallV (fun st H => aGo cl none cd_72 0 45 ls st H) cl 5 0 0 H st) ∧
  (∀ ls st H, aGo cl none cd_72 0 45 ls st H = aIret 0 st H) :=
  ⟨fun _ _ _ => (aGo_s rfl).trans rfl, fun _ _ _ => (aGo_s rfl).trans rfl, fun _ _ _ => (aGo_s rfl).trans rfl, fun _ _ _ => (aGo_s rfl).trans rfl, fun _ _ _ => (aGo_s rfl).trans rfl, fun _ _ _ => (aGo_s rfl).trans rfl, fun _ _ _ => (aGo_s rfl).trans rfl, fun _ _ _ => (aGo_s rfl).trans rfl, fun _ _ _ => (aGo_s rfl).trans rfl, fun _ _ _ => (aGo_s rfl).trans rfl, fun _ _ _ => (aGo_s rfl).trans rfl, fun _ _ _ => (aGo_s rfl).trans rfl, fun _ _ _ => (aGo_s rfl).trans rfl, fun _ _ _ => (aGo_s rfl).trans rfl, fun _ _ _ => (aGo_s rfl).trans rfl, fun _ _ _ => (aGo_s rfl).trans rfl, fun _ _ _ => (aGo_s rfl).trans rfl, fun _ _ _ => (aGo_s rfl).trans rfl, fun _ _ _ => (aGo_s rfl).trans rfl, fun _ _ _ => (aGo_s rfl).trans rfl, fun _ _ _ => (aGo_s rfl).trans rfl, fun _ _ _ => (aGo_s rfl).trans rfl, fun _ _ _ => (aGo_s rfl).trans rfl, fun _ _ _ => (aGo_s rfl).trans rfl⟩
theorem e_72 {d : Nat} {x0 : Nat} {x1 : Int32} {H : aH} : aCall aMt (d + 1) 72 [.ref x0, .int x1] H = aGo (aCall aMt d) none cd_72 0 0 [some (.ref x0), some (.int x1), none] [] H := (c_0 rfl ⟨rfl, Nat.le_of_ble_eq_true rfl, Nat.le_of_ble_eq_true rfl⟩).trans rfl
theorem s_73 {cl : Nat → List Value → aH → aRs} : (∀ ls st H, aGo cl none cd_73 0 0 ls st H = aILoad (fun st => aGo cl none cd_73 0 1 ls st H) ls 3 st) ∧
  (∀ ls st H, aGo cl none cd_73 0 1 ls st H = aGo cl none cd_73 0 2 ls (.int 1 :: st) H) ∧
  (∀ ls st H, aGo cl none cd_73 0 2 ls st H = aGo cl none cd_73 0 4 ls (.int 8 :: st) H) ∧
  (∀ ls st H, aGo cl none cd_73 0 4 ls st H = aCallI (fun st H => aGo cl none cd_73 0 7 ls st H) cl 106 3 H st) ∧
  (∀ ls st H, aGo cl none cd_73 0 7 ls st H = aIf (fun p st => aGo cl none cd_73 0 p ls st H) .ne 17 10 st) ∧
  (∀ ls st H, aGo cl none cd_73 0 10 ls st H = aRLoad (fun st => aGo cl none cd_73 0 11 ls st H) ls 0 st) ∧
  (∀ ls st H, aGo cl none cd_73 0 11 ls st H = aGo cl none cd_73 0 13 ls (.int (-1000000001) :: st) H) ∧
  (∀ ls st H, aGo cl none cd_73 0 13 ls st H = aCallV (fun st H => aGo cl none cd_73 0 16 ls st H) cl 105 1 7 H st) ∧
  (∀ ls st H, aGo cl none cd_73 0 16 ls st H = aIret 0 st H) ∧
  (∀ ls st H, aGo cl none cd_73 0 17 ls st H = aRLoad (fun st => aGo cl none cd_73 0 18 ls st H) ls 0 st) ∧
  (∀ ls st H, aGo cl none cd_73 0 18 ls st H = aGet (fun st => aGo cl none cd_73 0 21 ls st H) 7 0 H st) ∧
  (∀ ls st H, aGo cl none cd_73 0 21 ls st H = aGet (fun st => aGo cl none cd_73 0 24 ls st H) 0 8 H st) ∧
  (∀ ls st H, aGo cl none cd_73 0 24 ls st H = aILoad (fun st => aGo cl none cd_73 0 25 ls st H) ls 3 st) ∧
  (∀ ls st H, aGo cl none cd_73 0 25 ls st H = aBin (fun st => aGo cl none cd_73 0 26 ls st H) (fun x y => x + y) st) ∧
  (∀ ls st H, aGo cl none cd_73 0 26 ls st H = aGo cl none cd_73 0 28 ls (.int 60 :: st) H) ∧
  (∀ ls st H, aGo cl none cd_73 0 28 ls st H = aIc (fun p st => aGo cl none cd_73 0 p ls st H) .le 38 31 st) ∧
  (∀ ls st H, aGo cl none cd_73 0 31 ls st H = aRLoad (fun st => aGo cl none cd_73 0 32 ls st H) ls 0 st) ∧
  (∀ ls st H, aGo cl none cd_73 0 32 ls st H = aGo cl none cd_73 0 34 ls (.int (-1000000004) :: st) H) ∧
  (∀ ls st H, aGo cl none cd_73 0 34 ls st H = aCallV (fun st H => aGo cl none cd_73 0 37 ls st H) cl 105 1 7 H st) ∧
  (∀ ls st H, aGo cl none cd_73 0 37 ls st H = aIret 0 st H) ∧
  (∀ ls st H, aGo cl none cd_73 0 38 ls st H = aGo cl none cd_73 0 39 ls (.int 0 :: st) H) ∧
  (∀ ls st H, aGo cl none cd_73 0 39 ls st H = aIStore (fun ls st => aGo cl none cd_73 0 41 ls st H) ls 4 st) ∧
  (∀ ls st H, aGo cl none cd_73 0 43 ls st H = aILoad (fun st => aGo cl none cd_73 0 44 ls st H) ls 3 st) ∧
  (∀ ls st H, aGo cl none cd_73 0 44 ls st H = aIc (fun p st => aGo cl none cd_73 0 p ls st H) .ge 90 47 st) ∧
  (∀ ls st H, aGo cl none cd_73 0 47 ls st H = aRLoad (fun st => aGo cl none cd_73 0 48 ls st H) ls 0 st) ∧
  (∀ ls st H, aGo cl none cd_73 0 48 ls st H = aGet (fun st => aGo cl none cd_73 0 51 ls st H) 7 0 H st) ∧
  (∀ ls st H, aGo cl none cd_73 0 51 ls st H = aGet (fun st => aGo cl none cd_73 0 54 ls st H) 0 4 H st) ∧
  (∀ ls st H, aGo cl none cd_73 0 54 ls st H = aRLoad (fun st => aGo cl none cd_73 0 55 ls st H) ls 0 st) ∧
  (∀ ls st H, aGo cl none cd_73 0 55 ls st H = aGet (fun st => aGo cl none cd_73 0 58 ls st H) 7 0 H st) ∧
  (∀ ls st H, aGo cl none cd_73 0 58 ls st H = aGet (fun st => aGo cl none cd_73 0 61 ls st H) 0 8 H st) ∧
  (∀ ls st H, aGo cl none cd_73 0 61 ls st H = aLLoad (fun st => aGo cl none cd_73 0 62 ls st H) ls 1 st) ∧
  (∀ ls st H, aGo cl none cd_73 0 62 ls st H = aGo cl none cd_73 0 64 ls (.int 8 :: st) H) ∧
  (∀ ls st H, aGo cl none cd_73 0 64 ls st H = aILoad (fun st => aGo cl none cd_73 0 66 ls st H) ls 4 st) ∧
  (∀ ls st H, aGo cl none cd_73 0 66 ls st H = aBin (fun st => aGo cl none cd_73 0 67 ls st H) (fun x y => x * y) st) ∧
  (∀ ls st H, aGo cl none cd_73 0 67 ls st H = aShL (fun st => aGo cl none cd_73 0 68 ls st H) (fun x y => (x.toUInt64 >>> (y.toInt64.toUInt64 &&& Int64.toUInt64 63)).toInt64) st) ∧
  (∀ ls st H, aGo cl none cd_73 0 68 ls st H = aL2i (fun st => aGo cl none cd_73 0 69 ls st H) st) ∧
  (∀ ls st H, aGo cl none cd_73 0 69 ls st H = aUn (fun st => aGo cl none cd_73 0 70 ls st H) (fun x => x.toInt8.toInt32) st) ∧
  (∀ ls st H, aGo cl none cd_73 0 70 ls st H = aBast (fun st H => aGo cl none cd_73 0 71 ls st H) H st) ∧
  (∀ ls st H, aGo cl none cd_73 0 71 ls st H = aRLoad (fun st => aGo cl none cd_73 0 72 ls st H) ls 0 st) ∧
  (∀ ls st H, aGo cl none cd_73 0 72 ls st H = aGet (fun st => aGo cl none cd_73 0 75 ls st H) 7 0 H st) ∧
  (∀ ls st H, aGo cl none cd_73 0 75 ls st H = aDup (fun st => aGo cl none cd_73 0 76 ls st H) st) ∧
  (∀ ls st H, aGo cl none cd_73 0 76 ls st H = aGet (fun st => aGo cl none cd_73 0 79 ls st H) 0 8 H st) ∧
  (∀ ls st H, aGo cl none cd_73 0 79 ls st H = aGo cl none cd_73 0 80 ls (.int 1 :: st) H) ∧
  (∀ ls st H, aGo cl none cd_73 0 80 ls st H = aBin (fun st => aGo cl none cd_73 0 81 ls st H) (fun x y => x + y) st) ∧
  (∀ ls st H, aGo cl none cd_73 0 81 ls st H = aPut (fun st H => aGo cl none cd_73 0 84 ls st H) 0 8 H st) ∧
  (∀ ls st H, aGo cl none cd_73 0 84 ls st H = aInc (fun ls => aGo cl none cd_73 0 87 ls st H) ls 4 1) ∧
  (∀ ls st H, aGo cl none cd_73 0 87 ls st H = aGo cl none cd_73 0 41 ls st H) ∧
  (∀ ls st H, aGo cl none cd_73 0 90 ls st H = aRLoad (fun st => aGo cl none cd_73 0 91 ls st H) ls 0 st) ∧
  (∀ ls st H, aGo cl none cd_73 0 91 ls st H = aGet (fun st => aGo cl none cd_73 0 94 ls st H) 7 0 H st) ∧
  (∀ ls st H, aGo cl none cd_73 0 94 ls st H = aGet (fun st => aGo cl none cd_73 0 97 ls st H) 0 8 H st) ∧
  (∀ ls st H, aGo cl none cd_73 0 97 ls st H = aIret 0 st H) :=
  ⟨fun _ _ _ => (aGo_s rfl).trans rfl, fun _ _ _ => (aGo_s rfl).trans rfl, fun _ _ _ => (aGo_s rfl).trans rfl, fun _ _ _ => (aGo_s rfl).trans rfl, fun _ _ _ => (aGo_s rfl).trans rfl, fun _ _ _ => (aGo_s rfl).trans rfl, fun _ _ _ => (aGo_s rfl).trans rfl, fun _ _ _ => (aGo_s rfl).trans rfl, fun _ _ _ => (aGo_s rfl).trans rfl, fun _ _ _ => (aGo_s rfl).trans rfl, fun _ _ _ => (aGo_s rfl).trans rfl, fun _ _ _ => (aGo_s rfl).trans rfl, fun _ _ _ => (aGo_s rfl).trans rfl, fun _ _ _ => (aGo_s rfl).trans rfl, fun _ _ _ => (aGo_s rfl).trans rfl, fun _ _ _ => (aGo_s rfl).trans rfl, fun _ _ _ => (aGo_s rfl).trans rfl, fun _ _ _ => (aGo_s rfl).trans rfl, fun _ _ _ => (aGo_s rfl).trans rfl, fun _ _ _ => (aGo_s rfl).trans rfl, fun _ _ _ => (aGo_s rfl).trans rfl, fun _ _ _ => (aGo_s rfl).trans rfl, fun _ _ _ => (aGo_s rfl).trans rfl, fun _ _ _ => (aGo_s rfl).trans rfl, fun _ _ _ => (aGo_s rfl).trans rfl, fun _ _ _ => (aGo_s rfl).trans rfl, fun _ _ _ => (aGo_s rfl).trans rfl, fun _ _ _ => (aGo_s rfl).trans rfl, fun _ _ _ => (aGo_s rfl).trans rfl, fun _ _ _ => (aGo_s rfl).trans rfl, fun _ _ _ => (aGo_s rfl).trans rfl, fun _ _ _ => (aGo_s rfl).trans rfl, fun _ _ _ => (aGo_s rfl).trans rfl, fun _ _ _ => (aGo_s rfl).trans rfl, fun _ _ _ => (aGo_s rfl).trans rfl, fun _ _ _ => (aGo_s rfl).trans rfl, fun _ _ _ => (aGo_s rfl).trans rfl, fun _ _ _ => (aGo_s rfl).trans rfl, fun _ _ _ => (aGo_s rfl).trans rfl, fun _ _ _ => (aGo_s rfl).trans rfl, fun _ _ _ => (aGo_s rfl).trans rfl, fun _ _ _ => (aGo_s rfl).trans rfl, fun _ _ _ => (aGo_s rfl).trans rfl, fun _ _ _ => (aGo_s rfl).trans rfl, fun _ _ _ => (aGo_s rfl).trans rfl, fun _ _ _ => (aGo_s rfl).trans rfl, fun _ _ _ => (aGo_s rfl).trans rfl, fun _ _ _ => (aGo_s rfl).trans rfl, fun _ _ _ => (aGo_s rfl).trans rfl, fun _ _ _ => (aGo_s rfl).trans rfl, fun _ _ _ => (aGo_s rfl).trans rfl⟩
theorem s_73_41 {cl : Nat → List Value → aH → aRs} : ∀ ls st H, aGo cl none cd_73 0 41 ls st H = aILoad (fun st => aGo cl none cd_73 0 43 ls st H) ls 4 st := fun _ _ _ => (aGo_s rfl).trans rfl
theorem e_73 {d : Nat} {x0 : Nat} {x1 : Int64} {x2 : Int32} {H : aH} : aCall aMt (d + 1) 73 [.ref x0, .long x1, .int x2] H = aGo (aCall aMt d) none cd_73 0 0 [some (.ref x0), some (.long x1), none, some (.int x2), none] [] H := (c_0 rfl ⟨rfl, Nat.le_of_ble_eq_true rfl, Nat.le_of_ble_eq_true rfl⟩).trans rfl
theorem s_74 {cl : Nat → List Value → aH → aRs} : (∀ ls st H, aGo cl none cd_74 0 0 ls st H = aILoad (fun st => aGo cl none cd_74 0 1 ls st H) ls 1 st) ∧
  (∀ ls st H, aGo cl none cd_74 0 1 ls st H = aCallI (fun st H => aGo cl none cd_74 0 4 ls st H) cl 107 1 H st) ∧
  (∀ ls st H, aGo cl none cd_74 0 4 ls st H = aIf (fun p st => aGo cl none cd_74 0 p ls st H) .ne 14 7 st) ∧
  (∀ ls st H, aGo cl none cd_74 0 7 ls st H = aRLoad (fun st => aGo cl none cd_74 0 8 ls st H) ls 0 st) ∧
  (∀ ls st H, aGo cl none cd_74 0 8 ls st H = aGo cl none cd_74 0 10 ls (.int (-1000000001) :: st) H) ∧
  (∀ ls st H, aGo cl none cd_74 0 10 ls st H = aCallV (fun st H => aGo cl none cd_74 0 13 ls st H) cl 105 1 7 H st) ∧
  (∀ ls st H, aGo cl none cd_74 0 13 ls st H = aIret 0 st H) ∧
  (∀ ls st H, aGo cl none cd_74 0 14 ls st H = aRLoad (fun st => aGo cl none cd_74 0 15 ls st H) ls 0 st) ∧
  (∀ ls st H, aGo cl none cd_74 0 15 ls st H = aGet (fun st => aGo cl none cd_74 0 18 ls st H) 7 3 H st) ∧
  (∀ ls st H, aGo cl none cd_74 0 18 ls st H = aRLoad (fun st => aGo cl none cd_74 0 19 ls st H) ls 0 st) ∧
  (∀ ls st H, aGo cl none cd_74 0 19 ls st H = aGet (fun st => aGo cl none cd_74 0 22 ls st H) 7 0 H st) ∧
  (∀ ls st H, aGo cl none cd_74 0 22 ls st H = aGet (fun st => aGo cl none cd_74 0 25 ls st H) 0 4 H st) ∧
  (∀ ls st H, aGo cl none cd_74 0 25 ls st H = aRLoad (fun st => aGo cl none cd_74 0 26 ls st H) ls 0 st) ∧
  (∀ ls st H, aGo cl none cd_74 0 26 ls st H = aGet (fun st => aGo cl none cd_74 0 29 ls st H) 7 0 H st) ∧
  (∀ ls st H, aGo cl none cd_74 0 29 ls st H = aGet (fun st => aGo cl none cd_74 0 32 ls st H) 0 8 H st) ∧
  (∀ ls st H, aGo cl none cd_74 0 32 ls st H = aILoad (fun st => aGo cl none cd_74 0 33 ls st H) ls 1 st) ∧
  (∀ ls st H, aGo cl none cd_74 0 33 ls st H = aCallV (fun st H => aGo cl none cd_74 0 36 ls st H) cl 38 3 3 H st) ∧
  (∀ ls st H, aGo cl none cd_74 0 36 ls st H = aIStore (fun ls st => aGo cl none cd_74 0 37 ls st H) ls 2 st) ∧
  (∀ ls st H, aGo cl none cd_74 0 37 ls st H = aRLoad (fun st => aGo cl none cd_74 0 38 ls st H) ls 0 st) ∧
  (∀ ls st H, aGo cl none cd_74 0 38 ls st H = aGet (fun st => aGo cl none cd_74 0 41 ls st H) 7 0 H st) ∧
  (∀ ls st H, aGo cl none cd_74 0 41 ls st H = aGo cl none cd_74 0 42 ls (.int 0 :: st) H) ∧
  (∀ ls st H, aGo cl none cd_74 0 42 ls st H = aPut (fun st H => aGo cl none cd_74 0 45 ls st H) 0 8 H st) ∧
  (∀ ls st H, aGo cl none cd_74 0 45 ls st H = aILoad (fun st => aGo cl none cd_74 0 46 ls st H) ls 2 st) ∧
  (∀ ls st H, aGo cl none cd_74 0 46 ls st H = aGo cl none cd_74 0 47 ls (.int (-1) :: st) H) ∧
  (∀ ls st H, aGo cl none cd_74 0 47 ls st H = aIc (fun p st => aGo cl none cd_74 0 p ls st H) .eq 55 50 st) ∧
  (∀ ls st H, aGo cl none cd_74 0 50 ls st H = aGo cl none cd_74 0 52 ls (.int (-10) :: st) H) ∧
  (∀ ls st H, aGo cl none cd_74 0 52 ls st H = aILoad (fun st => aGo cl none cd_74 0 53 ls st H) ls 2 st) ∧
  (∀ ls st H, aGo cl none cd_74 0 53 ls st H = aBin (fun st => aGo cl none cd_74 0 54 ls st H) (fun x y => x - y) st) ∧
  (∀ ls st H, aGo cl none cd_74 0 54 ls st H = aIret 0 st H) ∧
  (∀ ls st H, aGo cl none cd_74 0 55 ls st H = aRLoad (fun st => aGo cl none cd_74 0 56 ls st H) ls 0 st) ∧
  (∀ ls st H, aGo cl none cd_74 0 56 ls st H = aGet (fun st => aGo cl none cd_74 0 59 ls st H) 7 0 H st) ∧
  (∀ ls st H, aGo cl none cd_74 0 59 ls st H = aILoad (fun st => aGo cl none cd_74 0 60 ls st H) ls 1 st) ∧
  (∀ ls st H, aGo cl none cd_74 0 60 ls st H = aCallV (fun st H => aGo cl none cd_74 0 63 ls st H) cl 4 1 0 H st) ∧
  (∀ ls st H, aGo cl none cd_74 0 63 ls st H = aRLoad (fun st => aGo cl none cd_74 0 64 ls st H) ls 0 st) ∧
  (∀ ls st H, aGo cl none cd_74 0 64 ls st H = aGet (fun st => aGo cl none cd_74 0 67 ls st H) 7 3 H st) ∧
  (∀ ls st H, aGo cl none cd_74 0 67 ls st H = aGet (fun st => aGo cl none cd_74 0 70 ls st H) 3 0 H st) ∧
  (∀ ls st H, aGo cl none cd_74 0 70 ls st H = aCallV (fun st H => aGo cl none cd_74 0 73 ls st H) cl 22 1 1 H st) ∧
  (∀ ls st H, aGo cl none cd_74 0 73 ls st H = aGo cl none cd_74 0 74 ls (.int 1 :: st) H) ∧
  (∀ ls st H, aGo cl none cd_74 0 74 ls st H = aIret 0 st H) :=
  ⟨fun _ _ _ => (aGo_s rfl).trans rfl, fun _ _ _ => (aGo_s rfl).trans rfl, fun _ _ _ => (aGo_s rfl).trans rfl, fun _ _ _ => (aGo_s rfl).trans rfl, fun _ _ _ => (aGo_s rfl).trans rfl, fun _ _ _ => (aGo_s rfl).trans rfl, fun _ _ _ => (aGo_s rfl).trans rfl, fun _ _ _ => (aGo_s rfl).trans rfl, fun _ _ _ => (aGo_s rfl).trans rfl, fun _ _ _ => (aGo_s rfl).trans rfl, fun _ _ _ => (aGo_s rfl).trans rfl, fun _ _ _ => (aGo_s rfl).trans rfl, fun _ _ _ => (aGo_s rfl).trans rfl, fun _ _ _ => (aGo_s rfl).trans rfl, fun _ _ _ => (aGo_s rfl).trans rfl, fun _ _ _ => (aGo_s rfl).trans rfl, fun _ _ _ => (aGo_s rfl).trans rfl, fun _ _ _ => (aGo_s rfl).trans rfl, fun _ _ _ => (aGo_s rfl).trans rfl, fun _ _ _ => (aGo_s rfl).trans rfl, fun _ _ _ => (aGo_s rfl).trans rfl, fun _ _ _ => (aGo_s rfl).trans rfl, fun _ _ _ => (aGo_s rfl).trans rfl, fun _ _ _ => (aGo_s rfl).trans rfl, fun _ _ _ => (aGo_s rfl).trans rfl, fun _ _ _ => (aGo_s rfl).trans rfl, fun _ _ _ => (aGo_s rfl).trans rfl, fun _ _ _ => (aGo_s rfl).trans rfl, fun _ _ _ => (aGo_s rfl).trans rfl, fun _ _ _ => (aGo_s rfl).trans rfl, fun _ _ _ => (aGo_s rfl).trans rfl, fun _ _ _ => (aGo_s rfl).trans rfl, fun _ _ _ => (aGo_s rfl).trans rfl, fun _ _ _ => (aGo_s rfl).trans rfl, fun _ _ _ => (aGo_s rfl).trans rfl, fun _ _ _ => (aGo_s rfl).trans rfl, fun _ _ _ => (aGo_s rfl).trans rfl, fun _ _ _ => (aGo_s rfl).trans rfl, fun _ _ _ => (aGo_s rfl).trans rfl⟩
theorem e_74 {d : Nat} {x0 : Nat} {x1 : Int32} {H : aH} : aCall aMt (d + 1) 74 [.ref x0, .int x1] H = aGo (aCall aMt d) none cd_74 0 0 [some (.ref x0), some (.int x1), none] [] H := (c_0 rfl ⟨rfl, Nat.le_of_ble_eq_true rfl, Nat.le_of_ble_eq_true rfl⟩).trans rfl
theorem s_75 {cl : Nat → List Value → aH → aRs} : (∀ ls st H, aGo cl none cd_75 0 0 ls st H = aILoad (fun st => aGo cl none cd_75 0 1 ls st H) ls 1 st) ∧
  (∀ ls st H, aGo cl none cd_75 0 1 ls st H = aCallI (fun st H => aGo cl none cd_75 0 4 ls st H) cl 107 1 H st) ∧
  (∀ ls st H, aGo cl none cd_75 0 4 ls st H = aIf (fun p st => aGo cl none cd_75 0 p ls st H) .ne 14 7 st) ∧
  (∀ ls st H, aGo cl none cd_75 0 7 ls st H = aRLoad (fun st => aGo cl none cd_75 0 8 ls st H) ls 0 st) ∧
  (∀ ls st H, aGo cl none cd_75 0 8 ls st H = aGo cl none cd_75 0 10 ls (.int (-1000000001) :: st) H) ∧
  (∀ ls st H, aGo cl none cd_75 0 10 ls st H = aCallV (fun st H => aGo cl none cd_75 0 13 ls st H) cl 105 1 7 H st) ∧
  (∀ ls st H, aGo cl none cd_75 0 13 ls st H = aIret 0 st H) ∧
  (∀ ls st H, aGo cl none cd_75 0 14 ls st H = aRLoad (fun st => aGo cl none cd_75 0 15 ls st H) ls 0 st) ∧
  (∀ ls st H, aGo cl none cd_75 0 15 ls st H = aGet (fun st => aGo cl none cd_75 0 18 ls st H) 7 0 H st) ∧
  (∀ ls st H, aGo cl none cd_75 0 18 ls st H = aILoad (fun st => aGo cl none cd_75 0 19 ls st H) ls 1 st) ∧
  (∀ ls st H, aGo cl none cd_75 0 19 ls st H = aCallV (fun st H => aGo cl none cd_75 0 22 ls st H) cl 4 1 0 H st) ∧
  (∀ ls st H, aGo cl none cd_75 0 22 ls st H = aRStore (fun ls st => aGo cl none cd_75 0 23 ls st H) ls 2 st) ∧
  (∀ ls st H, aGo cl none cd_75 0 23 ls st H = aRLoad (fun st => aGo cl none cd_75 0 24 ls st H) ls 2 st) ∧
  (∀ ls st H, aGo cl none cd_75 0 24 ls st H = aCallV (fun st H => aGo cl none cd_75 0 27 ls st H) cl 21 0 1 H st) ∧
  (∀ ls st H, aGo cl none cd_75 0 27 ls st H = aIf (fun p st => aGo cl none cd_75 0 p ls st H) .eq 34 30 st) ∧
  (∀ ls st H, aGo cl none cd_75 0 30 ls st H = aGo cl none cd_75 0 31 ls (.int 1 :: st) H) ∧
  (∀ ls st H, aGo cl none cd_75 0 31 ls st H = aGo cl none cd_75 0 35 ls st H) ∧
  (∀ ls st H, aGo cl none cd_75 0 34 ls st H = aGo cl none cd_75 0 35 ls (.int 0 :: st) H) ∧
  (∀ ls st H, aGo cl none cd_75 0 35 ls st H = aIStore (fun ls st => aGo cl none cd_75 0 36 ls st H) ls 3 st) ∧
  (∀ ls st H, aGo cl none cd_75 0 36 ls st H = aRLoad (fun st => aGo cl none cd_75 0 37 ls st H) ls 2 st) ∧
  (∀ ls st H, aGo cl none cd_75 0 37 ls st H = aCallV (fun st H => aGo cl none cd_75 0 40 ls st H) cl 20 0 1 H st) ∧
  (∀ ls st H, aGo cl none cd_75 0 40 ls st H = aILoad (fun st => aGo cl none cd_75 0 41 ls st H) ls 3 st) ∧
  (∀ ls st H, aGo cl none cd_75 0 41 ls st H = aIret 0 st H) :=
  ⟨fun _ _ _ => (aGo_s rfl).trans rfl, fun _ _ _ => (aGo_s rfl).trans rfl, fun _ _ _ => (aGo_s rfl).trans rfl, fun _ _ _ => (aGo_s rfl).trans rfl, fun _ _ _ => (aGo_s rfl).trans rfl, fun _ _ _ => (aGo_s rfl).trans rfl, fun _ _ _ => (aGo_s rfl).trans rfl, fun _ _ _ => (aGo_s rfl).trans rfl, fun _ _ _ => (aGo_s rfl).trans rfl, fun _ _ _ => (aGo_s rfl).trans rfl, fun _ _ _ => (aGo_s rfl).trans rfl, fun _ _ _ => (aGo_s rfl).trans rfl, fun _ _ _ => (aGo_s rfl).trans rfl, fun _ _ _ => (aGo_s rfl).trans rfl, fun _ _ _ => (aGo_s rfl).trans rfl, fun _ _ _ => (aGo_s rfl).trans rfl, fun _ _ _ => (aGo_s rfl).trans rfl, fun _ _ _ => (aGo_s rfl).trans rfl, fun _ _ _ => (aGo_s rfl).trans rfl, fun _ _ _ => (aGo_s rfl).trans rfl, fun _ _ _ => (aGo_s rfl).trans rfl, fun _ _ _ => (aGo_s rfl).trans rfl, fun _ _ _ => (aGo_s rfl).trans rfl⟩
theorem e_75 {d : Nat} {x0 : Nat} {x1 : Int32} {H : aH} : aCall aMt (d + 1) 75 [.ref x0, .int x1] H = aGo (aCall aMt d) none cd_75 0 0 [some (.ref x0), some (.int x1), none, none] [] H := (c_0 rfl ⟨rfl, Nat.le_of_ble_eq_true rfl, Nat.le_of_ble_eq_true rfl⟩).trans rfl
theorem s_76 {cl : Nat → List Value → aH → aRs} : (∀ ls st H, aGo cl none cd_76 0 0 ls st H = aILoad (fun st => aGo cl none cd_76 0 1 ls st H) ls 1 st) ∧
  (∀ ls st H, aGo cl none cd_76 0 1 ls st H = aCallI (fun st H => aGo cl none cd_76 0 4 ls st H) cl 107 1 H st) ∧
  (∀ ls st H, aGo cl none cd_76 0 4 ls st H = aIf (fun p st => aGo cl none cd_76 0 p ls st H) .ne 14 7 st) ∧
  (∀ ls st H, aGo cl none cd_76 0 7 ls st H = aRLoad (fun st => aGo cl none cd_76 0 8 ls st H) ls 0 st) ∧
  (∀ ls st H, aGo cl none cd_76 0 8 ls st H = aGo cl none cd_76 0 10 ls (.int (-1000000001) :: st) H) ∧
  (∀ ls st H, aGo cl none cd_76 0 10 ls st H = aCallV (fun st H => aGo cl none cd_76 0 13 ls st H) cl 105 1 7 H st) ∧
  (∀ ls st H, aGo cl none cd_76 0 13 ls st H = aIret 0 st H) ∧
  (∀ ls st H, aGo cl none cd_76 0 14 ls st H = aRLoad (fun st => aGo cl none cd_76 0 15 ls st H) ls 0 st) ∧
  (∀ ls st H, aGo cl none cd_76 0 15 ls st H = aGet (fun st => aGo cl none cd_76 0 18 ls st H) 7 0 H st) ∧
  (∀ ls st H, aGo cl none cd_76 0 18 ls st H = aILoad (fun st => aGo cl none cd_76 0 19 ls st H) ls 1 st) ∧
  (∀ ls st H, aGo cl none cd_76 0 19 ls st H = aCallV (fun st H => aGo cl none cd_76 0 22 ls st H) cl 4 1 0 H st) ∧
  (∀ ls st H, aGo cl none cd_76 0 22 ls st H = aILoad (fun st => aGo cl none cd_76 0 23 ls st H) ls 2 st) ∧
  (∀ ls st H, aGo cl none cd_76 0 23 ls st H = aILoad (fun st => aGo cl none cd_76 0 24 ls st H) ls 3 st) ∧
  (∀ ls st H, aGo cl none cd_76 0 24 ls st H = aILoad (fun st => aGo cl none cd_76 0 26 ls st H) ls 4 st) ∧
  (∀ ls st H, aGo cl none cd_76 0 26 ls st H = aCallV (fun st H => aGo cl none cd_76 0 29 ls st H) cl 24 3 1 H st) ∧
  (∀ ls st H, aGo cl none cd_76 0 29 ls st H = aIret 0 st H) :=
  ⟨fun _ _ _ => (aGo_s rfl).trans rfl, fun _ _ _ => (aGo_s rfl).trans rfl, fun _ _ _ => (aGo_s rfl).trans rfl, fun _ _ _ => (aGo_s rfl).trans rfl, fun _ _ _ => (aGo_s rfl).trans rfl, fun _ _ _ => (aGo_s rfl).trans rfl, fun _ _ _ => (aGo_s rfl).trans rfl, fun _ _ _ => (aGo_s rfl).trans rfl, fun _ _ _ => (aGo_s rfl).trans rfl, fun _ _ _ => (aGo_s rfl).trans rfl, fun _ _ _ => (aGo_s rfl).trans rfl, fun _ _ _ => (aGo_s rfl).trans rfl, fun _ _ _ => (aGo_s rfl).trans rfl, fun _ _ _ => (aGo_s rfl).trans rfl, fun _ _ _ => (aGo_s rfl).trans rfl, fun _ _ _ => (aGo_s rfl).trans rfl⟩
theorem e_76 {d : Nat} {x0 : Nat} {x1 : Int32} {x2 : Int32} {x3 : Int32} {x4 : Int32} {H : aH} : aCall aMt (d + 1) 76 [.ref x0, .int x1, .int x2, .int x3, .int x4] H = aGo (aCall aMt d) none cd_76 0 0 [some (.ref x0), some (.int x1), some (.int x2), some (.int x3), some (.int x4)] [] H := (c_0 rfl ⟨rfl, Nat.le_of_ble_eq_true rfl, Nat.le_of_ble_eq_true rfl⟩).trans rfl
theorem s_77 {cl : Nat → List Value → aH → aRs} : (∀ ls st H, aGo cl none cd_77 0 0 ls st H = aRLoad (fun st => aGo cl none cd_77 0 1 ls st H) ls 0 st) ∧
  (∀ ls st H, aGo cl none cd_77 0 1 ls st H = aGet (fun st => aGo cl none cd_77 0 4 ls st H) 7 0 H st) ∧
  (∀ ls st H, aGo cl none cd_77 0 4 ls st H = aILoad (fun st => aGo cl none cd_77 0 5 ls st H) ls 1 st) ∧
  (∀ ls st H, aGo cl none cd_77 0 5 ls st H = aCallV (fun st H => aGo cl none cd_77 0 8 ls st H) cl 2 1 0 H st) ∧
  (∀ ls st H, aGo cl none cd_77 0 8 ls st H = aRStore (fun ls st => aGo cl none cd_77 0 9 ls st H) ls 3 st) ∧
  (∀ ls st H, aGo cl none cd_77 0 9 ls st H = aRLoad (fun st => aGo cl none cd_77 0 10 ls st H) ls 0 st) ∧
  (∀ ls st H, aGo cl none cd_77 0 10 ls st H = aGet (fun st => aGo cl none cd_77 0 13 ls st H) 7 0 H st) ∧
  (∀ ls st H, aGo cl none cd_77 0 13 ls st H = aILoad (fun st => aGo cl none cd_77 0 14 ls st H) ls 2 st) ∧
  (∀ ls st H, aGo cl none cd_77 0 14 ls st H = aCallV (fun st H => aGo cl none cd_77 0 17 ls st H) cl 3 1 0 H st) ∧
  (∀ ls st H, aGo cl none cd_77 0 17 ls st H = aRStore (fun ls st => aGo cl none cd_77 0 19 ls st H) ls 4 st) ∧
  (∀ ls st H, aGo cl none cd_77 0 19 ls st H = aRLoad (fun st => aGo cl none cd_77 0 20 ls st H) ls 3 st) ∧
  (∀ ls st H, aGo cl none cd_77 0 20 ls st H = aNul (fun p st => aGo cl none cd_77 0 p ls st H) 28 23 st) ∧
  (∀ ls st H, aGo cl none cd_77 0 23 ls st H = aRLoad (fun st => aGo cl none cd_77 0 25 ls st H) ls 4 st) ∧
  (∀ ls st H, aGo cl none cd_77 0 25 ls st H = aNul (fun p st => aGo cl none cd_77 0 p ls st H) 28 35 st) ∧
  (∀ ls st H, aGo cl none cd_77 0 28 ls st H = aRLoad (fun st => aGo cl none cd_77 0 29 ls st H) ls 0 st) ∧
  (∀ ls st H, aGo cl none cd_77 0 29 ls st H = aGo cl none cd_77 0 31 ls (.int (-1000000001) :: st) H) ∧
  (∀ ls st H, aGo cl none cd_77 0 31 ls st H = aCallV (fun st H => aGo cl none cd_77 0 34 ls st H) cl 105 1 7 H st) ∧
  (∀ ls st H, aGo cl none cd_77 0 34 ls st H = aIret 0 st H) ∧
  (∀ ls st H, aGo cl none cd_77 0 35 ls st H = aRLoad (fun st => aGo cl none cd_77 0 36 ls st H) ls 3 st) ∧
  (∀ ls st H, aGo cl none cd_77 0 36 ls st H = aRLoad (fun st => aGo cl none cd_77 0 38 ls st H) ls 4 st) ∧
  (∀ ls st H, aGo cl none cd_77 0 38 ls st H = aRLoad (fun st => aGo cl none cd_77 0 39 ls st H) ls 0 st) ∧
  (∀ ls st H, aGo cl none cd_77 0 39 ls st H = aGet (fun st => aGo cl none cd_77 0 42 ls st H) 7 0 H st) ∧
  (∀ ls st H, aGo cl none cd_77 0 42 ls st H = aRLoad (fun st => aGo cl none cd_77 0 44 ls st H) ls 4 st) ∧
  (∀ ls st H, aGo cl none cd_77 0 44 ls st H = aCallV (fun st H => aGo cl none cd_77 0 47 ls st H) cl 7 1 0 H st) ∧
  (∀ ls st H, aGo cl none cd_77 0 47 ls st H = aCallV (fun st H => aGo cl none cd_77 0 50 ls st H) cl 34 2 2 H st) ∧
  (∀ ls st H, aGo cl none cd_77 0 50 ls st H = aIret 0 st H) :=
  ⟨fun _ _ _ => (aGo_s rfl).trans rfl, fun _ _ _ => (aGo_s rfl).trans rfl, fun _ _ _ => (aGo_s rfl).trans rfl, fun _ _ _ => (aGo_s rfl).trans rfl, fun _ _ _ => (aGo_s rfl).trans rfl, fun _ _ _ => (aGo_s rfl).trans rfl, fun _ _ _ => (aGo_s rfl).trans rfl, fun _ _ _ => (aGo_s rfl).trans rfl, fun _ _ _ => (aGo_s rfl).trans rfl, fun _ _ _ => (aGo_s rfl).trans rfl, fun _ _ _ => (aGo_s rfl).trans rfl, fun _ _ _ => (aGo_s rfl).trans rfl, fun _ _ _ => (aGo_s rfl).trans rfl, fun _ _ _ => (aGo_s rfl).trans rfl, fun _ _ _ => (aGo_s rfl).trans rfl, fun _ _ _ => (aGo_s rfl).trans rfl, fun _ _ _ => (aGo_s rfl).trans rfl, fun _ _ _ => (aGo_s rfl).trans rfl, fun _ _ _ => (aGo_s rfl).trans rfl, fun _ _ _ => (aGo_s rfl).trans rfl, fun _ _ _ => (aGo_s rfl).trans rfl, fun _ _ _ => (aGo_s rfl).trans rfl, fun _ _ _ => (aGo_s rfl).trans rfl, fun _ _ _ => (aGo_s rfl).trans rfl, fun _ _ _ => (aGo_s rfl).trans rfl, fun _ _ _ => (aGo_s rfl).trans rfl⟩
theorem e_77 {d : Nat} {x0 : Nat} {x1 : Int32} {x2 : Int32} {H : aH} : aCall aMt (d + 1) 77 [.ref x0, .int x1, .int x2] H = aGo (aCall aMt d) none cd_77 0 0 [some (.ref x0), some (.int x1), some (.int x2), none, none] [] H := (c_0 rfl ⟨rfl, Nat.le_of_ble_eq_true rfl, Nat.le_of_ble_eq_true rfl⟩).trans rfl
theorem s_78 {cl : Nat → List Value → aH → aRs} : (∀ ls st H, aGo cl none cd_78 0 0 ls st H = aRLoad (fun st => aGo cl none cd_78 0 1 ls st H) ls 0 st) ∧
  (∀ ls st H, aGo cl none cd_78 0 1 ls st H = aGet (fun st => aGo cl none cd_78 0 4 ls st H) 7 0 H st) ∧
  (∀ ls st H, aGo cl none cd_78 0 4 ls st H = aILoad (fun st => aGo cl none cd_78 0 5 ls st H) ls 1 st) ∧
  (∀ ls st H, aGo cl none cd_78 0 5 ls st H = aCallV (fun st H => aGo cl none cd_78 0 8 ls st H) cl 3 1 0 H st) ∧
  (∀ ls st H, aGo cl none cd_78 0 8 ls st H = aRStore (fun ls st => aGo cl none cd_78 0 9 ls st H) ls 3 st) ∧
  (∀ ls st H, aGo cl none cd_78 0 9 ls st H = aRLoad (fun st => aGo cl none cd_78 0 10 ls st H) ls 3 st) ∧
  (∀ ls st H, aGo cl none cd_78 0 10 ls st H = aNul (fun p st => aGo cl none cd_78 0 p ls st H) 22 13 st) ∧
  (∀ ls st H, aGo cl none cd_78 0 13 ls st H = aILoad (fun st => aGo cl none cd_78 0 14 ls st H) ls 2 st) ∧
  (∀ ls st H, aGo cl none cd_78 0 14 ls st H = aGo cl none cd_78 0 15 ls (.int 0 :: st) H) ∧
  (∀ ls st H, aGo cl none cd_78 0 15 ls st H = aGo cl none cd_78 0 16 ls (.int 1 :: st) H) ∧
  (∀ ls st H, aGo cl none cd_78 0 16 ls st H = aCallI (fun st H => aGo cl none cd_78 0 19 ls st H) cl 106 3 H st) ∧
  (∀ ls st H, aGo cl none cd_78 0 19 ls st H = aIf (fun p st => aGo cl none cd_78 0 p ls st H) .ne 29 22 st) ∧
  (∀ ls st H, aGo cl none cd_78 0 22 ls st H = aRLoad (fun st => aGo cl none cd_78 0 23 ls st H) ls 0 st) ∧
  (∀ ls st H, aGo cl none cd_78 0 23 ls st H = aGo cl none cd_78 0 25 ls (.int (-1000000001) :: st) H) ∧
  (∀ ls st H, aGo cl none cd_78 0 25 ls st H = aCallV (fun st H => aGo cl none cd_78 0 28 ls st H) cl 105 1 7 H st) ∧
  (∀ ls st H, aGo cl none cd_78 0 28 ls st H = aIret 0 st H) ∧
  (∀ ls st H, aGo cl none cd_78 0 29 ls st H = aRLoad (fun st => aGo cl none cd_78 0 30 ls st H) ls 0 st) ∧
  (∀ ls st H, aGo cl none cd_78 0 30 ls st H = aGet (fun st => aGo cl none cd_78 0 33 ls st H) 7 0 H st) ∧
  (∀ ls st H, aGo cl none cd_78 0 33 ls st H = aGet (fun st => aGo cl none cd_78 0 36 ls st H) 0 3 H st) ∧
  (∀ ls st H, aGo cl none cd_78 0 36 ls st H = aRLoad (fun st => aGo cl none cd_78 0 37 ls st H) ls 3 st) ∧
  (∀ ls st H, aGo cl none cd_78 0 37 ls st H = aGet (fun st => aGo cl none cd_78 0 40 ls st H) 5 1 H st) ∧
  (∀ ls st H, aGo cl none cd_78 0 40 ls st H = aILoad (fun st => aGo cl none cd_78 0 41 ls st H) ls 2 st) ∧
  (∀ ls st H, aGo cl none cd_78 0 41 ls st H = aRLoad (fun st => aGo cl none cd_78 0 42 ls st H) ls 3 st) ∧
  (∀ ls st H, aGo cl none cd_78 0 42 ls st H = aGet (fun st => aGo cl none cd_78 0 45 ls st H) 5 2 H st) ∧
  (∀ ls st H, aGo cl none cd_78 0 45 ls st H = aCallV (fun st H => aGo cl none cd_78 0 48 ls st H) cl 24 3 1 H st) ∧
  (∀ ls st H, aGo cl none cd_78 0 48 ls st H = aIret 0 st H) :=
  ⟨fun _ _ _ => (aGo_s rfl).trans rfl, fun _ _ _ => (aGo_s rfl).trans rfl, fun _ _ _ => (aGo_s rfl).trans rfl, fun _ _ _ => (aGo_s rfl).trans rfl, fun _ _ _ => (aGo_s rfl).trans rfl, fun _ _ _ => (aGo_s rfl).trans rfl, fun _ _ _ => (aGo_s rfl).trans rfl, fun _ _ _ => (aGo_s rfl).trans rfl, fun _ _ _ => (aGo_s rfl).trans rfl, fun _ _ _ => (aGo_s rfl).trans rfl, fun _ _ _ => (aGo_s rfl).trans rfl, fun _ _ _ => (aGo_s rfl).trans rfl, fun _ _ _ => (aGo_s rfl).trans rfl, fun _ _ _ => (aGo_s rfl).trans rfl, fun _ _ _ => (aGo_s rfl).trans rfl, fun _ _ _ => (aGo_s rfl).trans rfl, fun _ _ _ => (aGo_s rfl).trans rfl, fun _ _ _ => (aGo_s rfl).trans rfl, fun _ _ _ => (aGo_s rfl).trans rfl, fun _ _ _ => (aGo_s rfl).trans rfl, fun _ _ _ => (aGo_s rfl).trans rfl, fun _ _ _ => (aGo_s rfl).trans rfl, fun _ _ _ => (aGo_s rfl).trans rfl, fun _ _ _ => (aGo_s rfl).trans rfl, fun _ _ _ => (aGo_s rfl).trans rfl, fun _ _ _ => (aGo_s rfl).trans rfl⟩
theorem e_78 {d : Nat} {x0 : Nat} {x1 : Int32} {x2 : Int32} {H : aH} : aCall aMt (d + 1) 78 [.ref x0, .int x1, .int x2] H = aGo (aCall aMt d) none cd_78 0 0 [some (.ref x0), some (.int x1), some (.int x2), none] [] H := (c_0 rfl ⟨rfl, Nat.le_of_ble_eq_true rfl, Nat.le_of_ble_eq_true rfl⟩).trans rfl
theorem s_79 {cl : Nat → List Value → aH → aRs} : (∀ ls st H, aGo cl none cd_79 0 0 ls st H = aRLoad (fun st => aGo cl none cd_79 0 1 ls st H) ls 0 st) ∧
  (∀ ls st H, aGo cl none cd_79 0 1 ls st H = aGet (fun st => aGo cl none cd_79 0 4 ls st H) 7 0 H st) ∧
  (∀ ls st H, aGo cl none cd_79 0 4 ls st H = aILoad (fun st => aGo cl none cd_79 0 5 ls st H) ls 1 st) ∧
  (∀ ls st H, aGo cl none cd_79 0 5 ls st H = aCallV (fun st H => aGo cl none cd_79 0 8 ls st H) cl 2 1 0 H st) ∧
  (∀ ls st H, aGo cl none cd_79 0 8 ls st H = aRStore (fun ls st => aGo cl none cd_79 0 9 ls st H) ls 3 st) ∧
  (∀ ls st H, aGo cl none cd_79 0 9 ls st H = aRLoad (fun st => aGo cl none cd_79 0 10 ls st H) ls 3 st) ∧
  (∀ ls st H, aGo cl none cd_79 0 10 ls st H = aNul (fun p st => aGo cl none cd_79 0 p ls st H) 22 13 st) ∧
  (∀ ls st H, aGo cl none cd_79 0 13 ls st H = aILoad (fun st => aGo cl none cd_79 0 14 ls st H) ls 2 st) ∧
  (∀ ls st H, aGo cl none cd_79 0 14 ls st H = aGo cl none cd_79 0 15 ls (.int 0 :: st) H) ∧
  (∀ ls st H, aGo cl none cd_79 0 15 ls st H = aGo cl none cd_79 0 16 ls (.int 1 :: st) H) ∧
  (∀ ls st H, aGo cl none cd_79 0 16 ls st H = aCallI (fun st H => aGo cl none cd_79 0 19 ls st H) cl 106 3 H st) ∧
  (∀ ls st H, aGo cl none cd_79 0 19 ls st H = aIf (fun p st => aGo cl none cd_79 0 p ls st H) .ne 29 22 st) ∧
  (∀ ls st H, aGo cl none cd_79 0 22 ls st H = aRLoad (fun st => aGo cl none cd_79 0 23 ls st H) ls 0 st) ∧
  (∀ ls st H, aGo cl none cd_79 0 23 ls st H = aGo cl none cd_79 0 25 ls (.int (-1000000001) :: st) H) ∧
  (∀ ls st H, aGo cl none cd_79 0 25 ls st H = aCallV (fun st H => aGo cl none cd_79 0 28 ls st H) cl 105 1 7 H st) ∧
  (∀ ls st H, aGo cl none cd_79 0 28 ls st H = aIret 0 st H) ∧
  (∀ ls st H, aGo cl none cd_79 0 29 ls st H = aRLoad (fun st => aGo cl none cd_79 0 30 ls st H) ls 0 st) ∧
  (∀ ls st H, aGo cl none cd_79 0 30 ls st H = aGet (fun st => aGo cl none cd_79 0 33 ls st H) 7 0 H st) ∧
  (∀ ls st H, aGo cl none cd_79 0 33 ls st H = aRLoad (fun st => aGo cl none cd_79 0 34 ls st H) ls 3 st) ∧
  (∀ ls st H, aGo cl none cd_79 0 34 ls st H = aILoad (fun st => aGo cl none cd_79 0 35 ls st H) ls 2 st) ∧
  (∀ ls st H, aGo cl none cd_79 0 35 ls st H = aCallV (fun st H => aGo cl none cd_79 0 38 ls st H) cl 13 2 0 H st) ∧
  (∀ ls st H, aGo cl none cd_79 0 38 ls st H = aIret 0 st H) :=
  ⟨fun _ _ _ => (aGo_s rfl).trans rfl, fun _ _ _ => (aGo_s rfl).trans rfl, fun _ _ _ => (aGo_s rfl).trans rfl, fun _ _ _ => (aGo_s rfl).trans rfl, fun _ _ _ => (aGo_s rfl).trans rfl, fun _ _ _ => (aGo_s rfl).trans rfl, fun _ _ _ => (aGo_s rfl).trans rfl, fun _ _ _ => (aGo_s rfl).trans rfl, fun _ _ _ => (aGo_s rfl).trans rfl, fun _ _ _ => (aGo_s rfl).trans rfl, fun _ _ _ => (aGo_s rfl).trans rfl, fun _ _ _ => (aGo_s rfl).trans rfl, fun _ _ _ => (aGo_s rfl).trans rfl, fun _ _ _ => (aGo_s rfl).trans rfl, fun _ _ _ => (aGo_s rfl).trans rfl, fun _ _ _ => (aGo_s rfl).trans rfl, fun _ _ _ => (aGo_s rfl).trans rfl, fun _ _ _ => (aGo_s rfl).trans rfl, fun _ _ _ => (aGo_s rfl).trans rfl, fun _ _ _ => (aGo_s rfl).trans rfl, fun _ _ _ => (aGo_s rfl).trans rfl, fun _ _ _ => (aGo_s rfl).trans rfl⟩
theorem e_79 {d : Nat} {x0 : Nat} {x1 : Int32} {x2 : Int32} {H : aH} : aCall aMt (d + 1) 79 [.ref x0, .int x1, .int x2] H = aGo (aCall aMt d) none cd_79 0 0 [some (.ref x0), some (.int x1), some (.int x2), none] [] H := (c_0 rfl ⟨rfl, Nat.le_of_ble_eq_true rfl, Nat.le_of_ble_eq_true rfl⟩).trans rfl
theorem s_80 {cl : Nat → List Value → aH → aRs} : (∀ ls st H, aGo cl none cd_80 0 0 ls st H = aILoad (fun st => aGo cl none cd_80 0 1 ls st H) ls 1 st) ∧
  (∀ ls st H, aGo cl none cd_80 0 1 ls st H = aGo cl none cd_80 0 2 ls (.int 1 :: st) H) ∧
  (∀ ls st H, aGo cl none cd_80 0 2 ls st H = aGo cl none cd_80 0 4 ls (.int 40 :: st) H) ∧
  (∀ ls st H, aGo cl none cd_80 0 4 ls st H = aCallI (fun st H => aGo cl none cd_80 0 7 ls st H) cl 106 3 H st) ∧
  (∀ ls st H, aGo cl none cd_80 0 7 ls st H = aIf (fun p st => aGo cl none cd_80 0 p ls st H) .ne 17 10 st) ∧
  (∀ ls st H, aGo cl none cd_80 0 10 ls st H = aRLoad (fun st => aGo cl none cd_80 0 11 ls st H) ls 0 st) ∧
  (∀ ls st H, aGo cl none cd_80 0 11 ls st H = aGo cl none cd_80 0 13 ls (.int (-1000000001) :: st) H) ∧
  (∀ ls st H, aGo cl none cd_80 0 13 ls st H = aCallV (fun st H => aGo cl none cd_80 0 16 ls st H) cl 105 1 7 H st) ∧
  (∀ ls st H, aGo cl none cd_80 0 16 ls st H = aIret 0 st H) ∧
  (∀ ls st H, aGo cl none cd_80 0 17 ls st H = aRLoad (fun st => aGo cl none cd_80 0 18 ls st H) ls 0 st) ∧
  (∀ ls st H, aGo cl none cd_80 0 18 ls st H = aGet (fun st => aGo cl none cd_80 0 21 ls st H) 7 0 H st) ∧
  (∀ ls st H, aGo cl none cd_80 0 21 ls st H = aGet (fun st => aGo cl none cd_80 0 24 ls st H) 0 10 H st) ∧
  (∀ ls st H, aGo cl none cd_80 0 24 ls st H = aILoad (fun st => aGo cl none cd_80 0 25 ls st H) ls 1 st) ∧
  (∀ ls st H, aGo cl none cd_80 0 25 ls st H = aBin (fun st => aGo cl none cd_80 0 26 ls st H) (fun x y => x + y) st) ∧
  (∀ ls st H, aGo cl none cd_80 0 26 ls st H = aGo cl none cd_80 0 29 ls (.int 9999 :: st) H) ∧
  (∀ ls st H, aGo cl none cd_80 0 29 ls st H = aIc (fun p st => aGo cl none cd_80 0 p ls st H) .le 39 32 st) ∧
  (∀ ls st H, aGo cl none cd_80 0 32 ls st H = aRLoad (fun st => aGo cl none cd_80 0 33 ls st H) ls 0 st) ∧
  (∀ ls st H, aGo cl none cd_80 0 33 ls st H = aGo cl none cd_80 0 35 ls (.int (-1000000003) :: st) H) ∧
  (∀ ls st H, aGo cl none cd_80 0 35 ls st H = aCallV (fun st H => aGo cl none cd_80 0 38 ls st H) cl 105 1 7 H st) ∧
  (∀ ls st H, aGo cl none cd_80 0 38 ls st H = aIret 0 st H) ∧
  (∀ ls st H, aGo cl none cd_80 0 39 ls st H = aGo cl none cd_80 0 40 ls (.int 0 :: st) H) ∧
  (∀ ls st H, aGo cl none cd_80 0 40 ls st H = aIStore (fun ls st => aGo cl none cd_80 0 41 ls st H) ls 2 st) ∧
  (∀ ls st H, aGo cl none cd_80 0 42 ls st H = aILoad (fun st => aGo cl none cd_80 0 43 ls st H) ls 1 st) ∧
  (∀ ls st H, aGo cl none cd_80 0 43 ls st H = aIc (fun p st => aGo cl none cd_80 0 p ls st H) .ge 60 46 st) ∧
  (∀ ls st H, aGo cl none cd_80 0 46 ls st H = aRLoad (fun st => aGo cl none cd_80 0 47 ls st H) ls 0 st) ∧
  (∀ ls st H, aGo cl none cd_80 0 47 ls st H = aGet (fun st => aGo cl none cd_80 0 50 ls st H) 7 0 H st) ∧
  (∀ ls st H, aGo cl none cd_80 0 50 ls st H = aCallV (fun st H => aGo cl none cd_80 0 53 ls st H) cl 17 0 0 H st) ∧
  (∀ ls st H, aGo cl none cd_80 0 53 ls st H = aPop1 (fun st => aGo cl none cd_80 0 54 ls st H) st) ∧
  (∀ ls st H, aGo cl none cd_80 0 54 ls st H = aInc (fun ls => aGo cl none cd_80 0 57 ls st H) ls 2 1) ∧
  (∀ ls st H, aGo cl none cd_80 0 57 ls st H = aGo cl none cd_80 0 41 ls st H) ∧
  (∀ ls st H, aGo cl none cd_80 0 60 ls st H = aRLoad (fun st => aGo cl none cd_80 0 61 ls st H) ls 0 st) ∧
  (∀ ls st H, aGo cl none cd_80 0 61 ls st H = aGet (fun st => aGo cl none cd_80 0 64 ls st H) 7 0 H st) ∧
  (∀ ls st H, aGo cl none cd_80 0 64 ls st H = aGet (fun st => aGo cl none cd_80 0 67 ls st H) 0 11 H st) ∧
  (∀ ls st H, aGo cl none cd_80 0 67 ls st H = aIret 0 st H) :=
  ⟨fun _ _ _ => (aGo_s rfl).trans rfl, fun _ _ _ => (aGo_s rfl).trans rfl, fun _ _ _ => (aGo_s rfl).trans rfl, fun _ _ _ => (aGo_s rfl).trans rfl, fun _ _ _ => (aGo_s rfl).trans rfl, fun _ _ _ => (aGo_s rfl).trans rfl, fun _ _ _ => (aGo_s rfl).trans rfl, fun _ _ _ => (aGo_s rfl).trans rfl, fun _ _ _ => (aGo_s rfl).trans rfl, fun _ _ _ => (aGo_s rfl).trans rfl, fun _ _ _ => (aGo_s rfl).trans rfl, fun _ _ _ => (aGo_s rfl).trans rfl, fun _ _ _ => (aGo_s rfl).trans rfl, fun _ _ _ => (aGo_s rfl).trans rfl, fun _ _ _ => (aGo_s rfl).trans rfl, fun _ _ _ => (aGo_s rfl).trans rfl, fun _ _ _ => (aGo_s rfl).trans rfl, fun _ _ _ => (aGo_s rfl).trans rfl, fun _ _ _ => (aGo_s rfl).trans rfl, fun _ _ _ => (aGo_s rfl).trans rfl, fun _ _ _ => (aGo_s rfl).trans rfl, fun _ _ _ => (aGo_s rfl).trans rfl, fun _ _ _ => (aGo_s rfl).trans rfl, fun _ _ _ => (aGo_s rfl).trans rfl, fun _ _ _ => (aGo_s rfl).trans rfl, fun _ _ _ => (aGo_s rfl).trans rfl, fun _ _ _ => (aGo_s rfl).trans rfl, fun _ _ _ => (aGo_s rfl).trans rfl, fun _ _ _ => (aGo_s rfl).trans rfl, fun _ _ _ => (aGo_s rfl).trans rfl, fun _ _ _ => (aGo_s rfl).trans rfl, fun _ _ _ => (aGo_s rfl).trans rfl, fun _ _ _ => (aGo_s rfl).trans rfl, fun _ _ _ => (aGo_s rfl).trans rfl⟩
theorem s_80_41 {cl : Nat → List Value → aH → aRs} : ∀ ls st H, aGo cl none cd_80 0 41 ls st H = aILoad (fun st => aGo cl none cd_80 0 42 ls st H) ls 2 st := fun _ _ _ => (aGo_s rfl).trans rfl
theorem e_80 {d : Nat} {x0 : Nat} {x1 : Int32} {H : aH} : aCall aMt (d + 1) 80 [.ref x0, .int x1] H = aGo (aCall aMt d) none cd_80 0 0 [some (.ref x0), some (.int x1), none] [] H := (c_0 rfl ⟨rfl, Nat.le_of_ble_eq_true rfl, Nat.le_of_ble_eq_true rfl⟩).trans rfl
theorem s_81 {cl : Nat → List Value → aH → aRs} : (∀ ls st H, aGo cl none cd_81 0 0 ls st H = aILoad (fun st => aGo cl none cd_81 0 1 ls st H) ls 1 st) ∧
  (∀ ls st H, aGo cl none cd_81 0 1 ls st H = aGo cl none cd_81 0 2 ls (.int 0 :: st) H) ∧
  (∀ ls st H, aGo cl none cd_81 0 2 ls st H = aGo cl none cd_81 0 4 ls (.int 9 :: st) H) ∧
  (∀ ls st H, aGo cl none cd_81 0 4 ls st H = aCallI (fun st H => aGo cl none cd_81 0 7 ls st H) cl 106 3 H st) ∧
  (∀ ls st H, aGo cl none cd_81 0 7 ls st H = aIf (fun p st => aGo cl none cd_81 0 p ls st H) .ne 17 10 st) ∧
  (∀ ls st H, aGo cl none cd_81 0 10 ls st H = aRLoad (fun st => aGo cl none cd_81 0 11 ls st H) ls 0 st) ∧
  (∀ ls st H, aGo cl none cd_81 0 11 ls st H = aGo cl none cd_81 0 13 ls (.int (-1000000001) :: st) H) ∧
  (∀ ls st H, aGo cl none cd_81 0 13 ls st H = aCallV (fun st H => aGo cl none cd_81 0 16 ls st H) cl 105 1 7 H st) ∧
  (∀ ls st H, aGo cl none cd_81 0 16 ls st H = aIret 0 st H) ∧
  (∀ ls st H, aGo cl none cd_81 0 17 ls st H = aRLoad (fun st => aGo cl none cd_81 0 18 ls st H) ls 0 st) ∧
  (∀ ls st H, aGo cl none cd_81 0 18 ls st H = aGet (fun st => aGo cl none cd_81 0 21 ls st H) 7 0 H st) ∧
  (∀ ls st H, aGo cl none cd_81 0 21 ls st H = aILoad (fun st => aGo cl none cd_81 0 22 ls st H) ls 1 st) ∧
  (∀ ls st H, aGo cl none cd_81 0 22 ls st H = aCallV (fun st H => aGo cl none cd_81 0 25 ls st H) cl 15 1 0 H st) ∧
  (∀ ls st H, aGo cl none cd_81 0 25 ls st H = aIret 0 st H) :=
  ⟨fun _ _ _ => (aGo_s rfl).trans rfl, fun _ _ _ => (aGo_s rfl).trans rfl, fun _ _ _ => (aGo_s rfl).trans rfl, fun _ _ _ => (aGo_s rfl).trans rfl, fun _ _ _ => (aGo_s rfl).trans rfl, fun _ _ _ => (aGo_s rfl).trans rfl, fun _ _ _ => (aGo_s rfl).trans rfl, fun _ _ _ => (aGo_s rfl).trans rfl, fun _ _ _ => (aGo_s rfl).trans rfl, fun _ _ _ => (aGo_s rfl).trans rfl, fun _ _ _ => (aGo_s rfl).trans rfl, fun _ _ _ => (aGo_s rfl).trans rfl, fun _ _ _ => (aGo_s rfl).trans rfl, fun _ _ _ => (aGo_s rfl).trans rfl⟩
theorem e_81 {d : Nat} {x0 : Nat} {x1 : Int32} {H : aH} : aCall aMt (d + 1) 81 [.ref x0, .int x1] H = aGo (aCall aMt d) none cd_81 0 0 [some (.ref x0), some (.int x1)] [] H := (c_0 rfl ⟨rfl, Nat.le_of_ble_eq_true rfl, Nat.le_of_ble_eq_true rfl⟩).trans rfl
theorem s_82 {cl : Nat → List Value → aH → aRs} : (∀ ls st H, aGo cl none cd_82 0 0 ls st H = aRLoad (fun st => aGo cl none cd_82 0 1 ls st H) ls 0 st) ∧
  (∀ ls st H, aGo cl none cd_82 0 1 ls st H = aGet (fun st => aGo cl none cd_82 0 4 ls st H) 7 0 H st) ∧
  (∀ ls st H, aGo cl none cd_82 0 4 ls st H = aGet (fun st => aGo cl none cd_82 0 7 ls st H) 0 14 H st) ∧
  (∀ ls st H, aGo cl none cd_82 0 7 ls st H = aIStore (fun ls st => aGo cl none cd_82 0 8 ls st H) ls 2 st) ∧
  (∀ ls st H, aGo cl none cd_82 0 8 ls st H = aRLoad (fun st => aGo cl none cd_82 0 9 ls st H) ls 0 st) ∧
  (∀ ls st H, aGo cl none cd_82 0 9 ls st H = aGet (fun st => aGo cl none cd_82 0 12 ls st H) 7 0 H st) ∧
  (∀ ls st H, aGo cl none cd_82 0 12 ls st H = aILoad (fun st => aGo cl none cd_82 0 13 ls st H) ls 1 st) ∧
  (∀ ls st H, aGo cl none cd_82 0 13 ls st H = aPut (fun st H => aGo cl none cd_82 0 16 ls st H) 0 14 H st) ∧
  (∀ ls st H, aGo cl none cd_82 0 16 ls st H = aILoad (fun st => aGo cl none cd_82 0 17 ls st H) ls 2 st) ∧
  (∀ ls st H, aGo cl none cd_82 0 17 ls st H = aIret 0 st H) :=
  ⟨fun _ _ _ => (aGo_s rfl).trans rfl, fun _ _ _ => (aGo_s rfl).trans rfl, fun _ _ _ => (aGo_s rfl).trans rfl, fun _ _ _ => (aGo_s rfl).trans rfl, fun _ _ _ => (aGo_s rfl).trans rfl, fun _ _ _ => (aGo_s rfl).trans rfl, fun _ _ _ => (aGo_s rfl).trans rfl, fun _ _ _ => (aGo_s rfl).trans rfl, fun _ _ _ => (aGo_s rfl).trans rfl, fun _ _ _ => (aGo_s rfl).trans rfl⟩
theorem e_82 {d : Nat} {x0 : Nat} {x1 : Int32} {H : aH} : aCall aMt (d + 1) 82 [.ref x0, .int x1] H = aGo (aCall aMt d) none cd_82 0 0 [some (.ref x0), some (.int x1), none] [] H := (c_0 rfl ⟨rfl, Nat.le_of_ble_eq_true rfl, Nat.le_of_ble_eq_true rfl⟩).trans rfl
theorem s_83 {cl : Nat → List Value → aH → aRs} : (∀ ls st H, aGo cl none cd_83 0 0 ls st H = aRLoad (fun st => aGo cl none cd_83 0 1 ls st H) ls 0 st) ∧
  (∀ ls st H, aGo cl none cd_83 0 1 ls st H = aGet (fun st => aGo cl none cd_83 0 4 ls st H) 7 0 H st) ∧
  (∀ ls st H, aGo cl none cd_83 0 4 ls st H = aILoad (fun st => aGo cl none cd_83 0 5 ls st H) ls 1 st) ∧
  (∀ ls st H, aGo cl none cd_83 0 5 ls st H = aCallV (fun st H => aGo cl none cd_83 0 8 ls st H) cl 2 1 0 H st) ∧
  (∀ ls st H, aGo cl none cd_83 0 8 ls st H = aRStore (fun ls st => aGo cl none cd_83 0 10 ls st H) ls 4 st) ∧
  (∀ ls st H, aGo cl none cd_83 0 10 ls st H = aRLoad (fun st => aGo cl none cd_83 0 12 ls st H) ls 4 st) ∧
  (∀ ls st H, aGo cl none cd_83 0 12 ls st H = aNul (fun p st => aGo cl none cd_83 0 p ls st H) 33 15 st) ∧
  (∀ ls st H, aGo cl none cd_83 0 15 ls st H = aILoad (fun st => aGo cl none cd_83 0 16 ls st H) ls 2 st) ∧
  (∀ ls st H, aGo cl none cd_83 0 16 ls st H = aGo cl none cd_83 0 17 ls (.int 0 :: st) H) ∧
  (∀ ls st H, aGo cl none cd_83 0 17 ls st H = aGo cl none cd_83 0 18 ls (.int 1 :: st) H) ∧
  (∀ ls st H, aGo cl none cd_83 0 18 ls st H = aCallI (fun st H => aGo cl none cd_83 0 21 ls st H) cl 106 3 H st) ∧
  (∀ ls st H, aGo cl none cd_83 0 21 ls st H = aIf (fun p st => aGo cl none cd_83 0 p ls st H) .eq 33 24 st) ∧
  (∀ ls st H, aGo cl none cd_83 0 24 ls st H = aILoad (fun st => aGo cl none cd_83 0 25 ls st H) ls 3 st) ∧
  (∀ ls st H, aGo cl none cd_83 0 25 ls st H = aGo cl none cd_83 0 26 ls (.int 0 :: st) H) ∧
  (∀ ls st H, aGo cl none cd_83 0 26 ls st H = aGo cl none cd_83 0 27 ls (.int 1 :: st) H) ∧
  (∀ ls st H, aGo cl none cd_83 0 27 ls st H = aCallI (fun st H => aGo cl none cd_83 0 30 ls st H) cl 106 3 H st) ∧
  (∀ ls st H, aGo cl none cd_83 0 30 ls st H = aIf (fun p st => aGo cl none cd_83 0 p ls st H) .ne 40 33 st) ∧
  (∀ ls st H, aGo cl none cd_83 0 33 ls st H = aRLoad (fun st => aGo cl none cd_83 0 34 ls st H) ls 0 st) ∧
  (∀ ls st H, aGo cl none cd_83 0 34 ls st H = aGo cl none cd_83 0 36 ls (.int (-1000000001) :: st) H) ∧
  (∀ ls st H, aGo cl none cd_83 0 36 ls st H = aCallV (fun st H => aGo cl none cd_83 0 39 ls st H) cl 105 1 7 H st) ∧
  (∀ ls st H, aGo cl none cd_83 0 39 ls st H = aIret 0 st H) ∧
  (∀ ls st H, aGo cl none cd_83 0 40 ls st H = aRLoad (fun st => aGo cl none cd_83 0 41 ls st H) ls 0 st) ∧
  (∀ ls st H, aGo cl none cd_83 0 41 ls st H = aGet (fun st => aGo cl none cd_83 0 44 ls st H) 7 0 H st) ∧
  (∀ ls st H, aGo cl none cd_83 0 44 ls st H = aRLoad (fun st => aGo cl none cd_83 0 46 ls st H) ls 4 st) ∧
  (∀ ls st H, aGo cl none cd_83 0 46 ls st H = aILoad (fun st => aGo cl none cd_83 0 47 ls st H) ls 2 st) ∧
  (∀ ls st H, aGo cl none cd_83 0 47 ls st H = aCallV (fun st H => aGo cl none cd_83 0 50 ls st H) cl 9 2 0 H st) ∧
  (∀ ls st H, aGo cl none cd_83 0 50 ls st H = aIStore (fun ls st => aGo cl none cd_83 0 52 ls st H) ls 5 st) ∧
  (∀ ls st H, aGo cl none cd_83 0 52 ls st H = aILoad (fun st => aGo cl none cd_83 0 53 ls st H) ls 3 st) ∧
  (∀ ls st H, aGo cl none cd_83 0 53 ls st H = aIf (fun p st => aGo cl none cd_83 0 p ls st H) .ne 59 56 st) ∧
  (∀ ls st H, aGo cl none cd_83 0 56 ls st H = aILoad (fun st => aGo cl none cd_83 0 58 ls st H) ls 5 st) ∧
  (∀ ls st H, aGo cl none cd_83 0 58 ls st H = aIret 0 st H) ∧
  (∀ ls st H, aGo cl none cd_83 0 59 ls st H = aRLoad (fun st => aGo cl none cd_83 0 60 ls st H) ls 0 st) ∧
  (∀ ls st H, aGo cl none cd_83 0 60 ls st H = aGet (fun st => aGo cl none cd_83 0 63 ls st H) 7 0 H st) ∧
  (∀ ls st H, aGo cl none cd_83 0 63 ls st H = aILoad (fun st => aGo cl none cd_83 0 65 ls st H) ls 5 st) ∧
  (∀ ls st H, aGo cl none cd_83 0 65 ls st H = aCallV (fun st H => aGo cl none cd_83 0 68 ls st H) cl 3 1 0 H st) ∧
  (∀ ls st H, aGo cl none cd_83 0 68 ls st H = aRStore (fun ls st => aGo cl none cd_83 0 70 ls st H) ls 6 st) ∧
  (∀ ls st H, aGo cl none cd_83 0 70 ls st H = aRLoad (fun st => aGo cl none cd_83 0 72 ls st H) ls 6 st) ∧
  (∀ ls st H, aGo cl none cd_83 0 72 ls st H = aNul (fun p st => aGo cl none cd_83 0 p ls st H) 75 79 st) ∧
  (∀ ls st H, aGo cl none cd_83 0 75 ls st H = aGo cl none cd_83 0 76 ls (.int 0 :: st) H) ∧
  (∀ ls st H, aGo cl none cd_83 0 76 ls st H = aGo cl none cd_83 0 91 ls st H) ∧
  (∀ ls st H, aGo cl none cd_83 0 79 ls st H = aRLoad (fun st => aGo cl none cd_83 0 80 ls st H) ls 0 st) ∧
  (∀ ls st H, aGo cl none cd_83 0 80 ls st H = aGet (fun st => aGo cl none cd_83 0 83 ls st H) 7 0 H st) ∧
  (∀ ls st H, aGo cl none cd_83 0 83 ls st H = aRLoad (fun st => aGo cl none cd_83 0 85 ls st H) ls 4 st) ∧
  (∀ ls st H, aGo cl none cd_83 0 85 ls st H = aRLoad (fun st => aGo cl none cd_83 0 87 ls st H) ls 6 st) ∧
  (∀ ls st H, aGo cl none cd_83 0 87 ls st H = aILoad (fun st => aGo cl none cd_83 0 88 ls st H) ls 2 st) ∧
  (∀ ls st H, aGo cl none cd_83 0 88 ls st H = aCallV (fun st H => aGo cl none cd_83 0 91 ls st H) cl 8 3 0 H st) ∧
  (∀ ls st H, aGo cl none cd_83 0 91 ls st H = aIret 0 st H) :=
  ⟨fun _ _ _ => (aGo_s rfl).trans rfl, fun _ _ _ => (aGo_s rfl).trans rfl, fun _ _ _ => (aGo_s rfl).trans rfl, fun _ _ _ => (aGo_s rfl).trans rfl, fun _ _ _ => (aGo_s rfl).trans rfl, fun _ _ _ => (aGo_s rfl).trans rfl, fun _ _ _ => (aGo_s rfl).trans rfl, fun _ _ _ => (aGo_s rfl).trans rfl, fun _ _ _ => (aGo_s rfl).trans rfl, fun _ _ _ => (aGo_s rfl).trans rfl, fun _ _ _ => (aGo_s rfl).trans rfl, fun _ _ _ => (aGo_s rfl).trans rfl, fun _ _ _ => (aGo_s rfl).trans rfl, fun _ _ _ => (aGo_s rfl).trans rfl, fun _ _ _ => (aGo_s rfl).trans rfl, fun _ _ _ => (aGo_s rfl).trans rfl, fun _ _ _ => (aGo_s rfl).trans rfl, fun _ _ _ => (aGo_s rfl).trans rfl, fun _ _ _ => (aGo_s rfl).trans rfl, fun _ _ _ => (aGo_s rfl).trans rfl, fun _ _ _ => (aGo_s rfl).trans rfl, fun _ _ _ => (aGo_s rfl).trans rfl, fun _ _ _ => (aGo_s rfl).trans rfl, fun _ _ _ => (aGo_s rfl).trans rfl, fun _ _ _ => (aGo_s rfl).trans rfl, fun _ _ _ => (aGo_s rfl).trans rfl, fun _ _ _ => (aGo_s rfl).trans rfl, fun _ _ _ => (aGo_s rfl).trans rfl, fun _ _ _ => (aGo_s rfl).trans rfl, fun _ _ _ => (aGo_s rfl).trans rfl, fun _ _ _ => (aGo_s rfl).trans rfl, fun _ _ _ => (aGo_s rfl).trans rfl, fun _ _ _ => (aGo_s rfl).trans rfl, fun _ _ _ => (aGo_s rfl).trans rfl, fun _ _ _ => (aGo_s rfl).trans rfl, fun _ _ _ => (aGo_s rfl).trans rfl, fun _ _ _ => (aGo_s rfl).trans rfl, fun _ _ _ => (aGo_s rfl).trans rfl, fun _ _ _ => (aGo_s rfl).trans rfl, fun _ _ _ => (aGo_s rfl).trans rfl, fun _ _ _ => (aGo_s rfl).trans rfl, fun _ _ _ => (aGo_s rfl).trans rfl, fun _ _ _ => (aGo_s rfl).trans rfl, fun _ _ _ => (aGo_s rfl).trans rfl, fun _ _ _ => (aGo_s rfl).trans rfl, fun _ _ _ => (aGo_s rfl).trans rfl, fun _ _ _ => (aGo_s rfl).trans rfl⟩
theorem e_83 {d : Nat} {x0 : Nat} {x1 : Int32} {x2 : Int32} {x3 : Int32} {H : aH} : aCall aMt (d + 1) 83 [.ref x0, .int x1, .int x2, .int x3] H = aGo (aCall aMt d) none cd_83 0 0 [some (.ref x0), some (.int x1), some (.int x2), some (.int x3), none, none, none] [] H := (c_0 rfl ⟨rfl, Nat.le_of_ble_eq_true rfl, Nat.le_of_ble_eq_true rfl⟩).trans rfl
theorem s_84 {cl : Nat → List Value → aH → aRs} : (∀ ls st H, aGo cl none cd_84 0 0 ls st H = aRLoad (fun st => aGo cl none cd_84 0 1 ls st H) ls 0 st) ∧
  (∀ ls st H, aGo cl none cd_84 0 1 ls st H = aGet (fun st => aGo cl none cd_84 0 4 ls st H) 7 0 H st) ∧
  (∀ ls st H, aGo cl none cd_84 0 4 ls st H = aILoad (fun st => aGo cl none cd_84 0 5 ls st H) ls 1 st) ∧
  (∀ ls st H, aGo cl none cd_84 0 5 ls st H = aCallV (fun st H => aGo cl none cd_84 0 8 ls st H) cl 3 1 0 H st) ∧
  (∀ ls st H, aGo cl none cd_84 0 8 ls st H = aNul (fun p st => aGo cl none cd_84 0 p ls st H) 20 11 st) ∧
  (∀ ls st H, aGo cl none cd_84 0 11 ls st H = aILoad (fun st => aGo cl none cd_84 0 12 ls st H) ls 2 st) ∧
  (∀ ls st H, aGo cl none cd_84 0 12 ls st H = aGo cl none cd_84 0 13 ls (.int 0 :: st) H) ∧
  (∀ ls st H, aGo cl none cd_84 0 13 ls st H = aGo cl none cd_84 0 14 ls (.int 1 :: st) H) ∧
  (∀ ls st H, aGo cl none cd_84 0 14 ls st H = aCallI (fun st H => aGo cl none cd_84 0 17 ls st H) cl 106 3 H st) ∧
  (∀ ls st H, aGo cl none cd_84 0 17 ls st H = aIf (fun p st => aGo cl none cd_84 0 p ls st H) .ne 27 20 st) ∧
  (∀ ls st H, aGo cl none cd_84 0 20 ls st H = aRLoad (fun st => aGo cl none cd_84 0 21 ls st H) ls 0 st) ∧
  (∀ ls st H, aGo cl none cd_84 0 21 ls st H = aGo cl none cd_84 0 23 ls (.int (-1000000001) :: st) H) ∧
  (∀ ls st H, aGo cl none cd_84 0 23 ls st H = aCallV (fun st H => aGo cl none cd_84 0 26 ls st H) cl 105 1 7 H st) ∧
  (∀ ls st H, aGo cl none cd_84 0 26 ls st H = aIret 0 st H) ∧
  (∀ ls st H, aGo cl none cd_84 0 27 ls st H = aRLoad (fun st => aGo cl none cd_84 0 28 ls st H) ls 0 st) ∧
  (∀ ls st H, aGo cl none cd_84 0 28 ls st H = aGet (fun st => aGo cl none cd_84 0 31 ls st H) 7 0 H st) ∧
  (∀ ls st H, aGo cl none cd_84 0 31 ls st H = aILoad (fun st => aGo cl none cd_84 0 32 ls st H) ls 1 st) ∧
  (∀ ls st H, aGo cl none cd_84 0 32 ls st H = aILoad (fun st => aGo cl none cd_84 0 33 ls st H) ls 2 st) ∧
  (∀ ls st H, aGo cl none cd_84 0 33 ls st H = aCallV (fun st H => aGo cl none cd_84 0 36 ls st H) cl 10 2 0 H st) ∧
  (∀ ls st H, aGo cl none cd_84 0 36 ls st H = aIret 0 st H) :=
  ⟨fun _ _ _ => (aGo_s rfl).trans rfl, fun _ _ _ => (aGo_s rfl).trans rfl, fun _ _ _ => (aGo_s rfl).trans rfl, fun _ _ _ => (aGo_s rfl).trans rfl, fun _ _ _ => (aGo_s rfl).trans rfl, fun _ _ _ => (aGo_s rfl).trans rfl, fun _ _ _ => (aGo_s rfl).trans rfl, fun _ _ _ => (aGo_s rfl).trans rfl, fun _ _ _ => (aGo_s rfl).trans rfl, fun _ _ _ => (aGo_s rfl).trans rfl, fun _ _ _ => (aGo_s rfl).trans rfl, fun _ _ _ => (aGo_s rfl).trans rfl, fun _ _ _ => (aGo_s rfl).trans rfl, fun _ _ _ => (aGo_s rfl).trans rfl, fun _ _ _ => (aGo_s rfl).trans rfl, fun _ _ _ => (aGo_s rfl).trans rfl, fun _ _ _ => (aGo_s rfl).trans rfl, fun _ _ _ => (aGo_s rfl).trans rfl, fun _ _ _ => (aGo_s rfl).trans rfl, fun _ _ _ => (aGo_s rfl).trans rfl⟩
theorem e_84 {d : Nat} {x0 : Nat} {x1 : Int32} {x2 : Int32} {H : aH} : aCall aMt (d + 1) 84 [.ref x0, .int x1, .int x2] H = aGo (aCall aMt d) none cd_84 0 0 [some (.ref x0), some (.int x1), some (.int x2)] [] H := (c_0 rfl ⟨rfl, Nat.le_of_ble_eq_true rfl, Nat.le_of_ble_eq_true rfl⟩).trans rfl
theorem s_85 {cl : Nat → List Value → aH → aRs} : (∀ ls st H, aGo cl none cd_85 0 0 ls st H = aRLoad (fun st => aGo cl none cd_85 0 1 ls st H) ls 0 st) ∧
  (∀ ls st H, aGo cl none cd_85 0 1 ls st H = aGet (fun st => aGo cl none cd_85 0 4 ls st H) 7 0 H st) ∧
  (∀ ls st H, aGo cl none cd_85 0 4 ls st H = aILoad (fun st => aGo cl none cd_85 0 5 ls st H) ls 1 st) ∧
  (∀ ls st H, aGo cl none cd_85 0 5 ls st H = aCallV (fun st H => aGo cl none cd_85 0 8 ls st H) cl 3 1 0 H st) ∧
  (∀ ls st H, aGo cl none cd_85 0 8 ls st H = aRStore (fun ls st => aGo cl none cd_85 0 9 ls st H) ls 2 st) ∧
  (∀ ls st H, aGo cl none cd_85 0 9 ls st H = aRLoad (fun st => aGo cl none cd_85 0 10 ls st H) ls 2 st) ∧
  (∀ ls st H, aGo cl none cd_85 0 10 ls st H = aNul (fun p st => aGo cl none cd_85 0 p ls st H) 13 20 st) ∧
  (∀ ls st H, aGo cl none cd_85 0 13 ls st H = aRLoad (fun st => aGo cl none cd_85 0 14 ls st H) ls 0 st) ∧
  (∀ ls st H, aGo cl none cd_85 0 14 ls st H = aGo cl none cd_85 0 16 ls (.int (-1000000001) :: st) H) ∧
  (∀ ls st H, aGo cl none cd_85 0 16 ls st H = aCallV (fun st H => aGo cl none cd_85 0 19 ls st H) cl 105 1 7 H st) ∧
  (∀ ls st H, aGo cl none cd_85 0 19 ls st H = aIret 0 st H) ∧
  (∀ ls st H, aGo cl none cd_85 0 20 ls st H = aRLoad (fun st => aGo cl none cd_85 0 21 ls st H) ls 2 st) ∧
  (∀ ls st H, aGo cl none cd_85 0 21 ls st H = aGet (fun st => aGo cl none cd_85 0 24 ls st H) 5 5 H st) ∧
  (∀ ls st H, aGo cl none cd_85 0 24 ls st H = aIf (fun p st => aGo cl none cd_85 0 p ls st H) .ne 34 27 st) ∧
  (∀ ls st H, aGo cl none cd_85 0 27 ls st H = aRLoad (fun st => aGo cl none cd_85 0 28 ls st H) ls 0 st) ∧
  (∀ ls st H, aGo cl none cd_85 0 28 ls st H = aGo cl none cd_85 0 30 ls (.int (-1000000003) :: st) H) ∧
  (∀ ls st H, aGo cl none cd_85 0 30 ls st H = aCallV (fun st H => aGo cl none cd_85 0 33 ls st H) cl 105 1 7 H st) ∧
  (∀ ls st H, aGo cl none cd_85 0 33 ls st H = aIret 0 st H) ∧
  (∀ ls st H, aGo cl none cd_85 0 34 ls st H = aRLoad (fun st => aGo cl none cd_85 0 35 ls st H) ls 0 st) ∧
  (∀ ls st H, aGo cl none cd_85 0 35 ls st H = aGet (fun st => aGo cl none cd_85 0 38 ls st H) 7 2 H st) ∧
  (∀ ls st H, aGo cl none cd_85 0 38 ls st H = aRLoad (fun st => aGo cl none cd_85 0 39 ls st H) ls 0 st) ∧
  (∀ ls st H, aGo cl none cd_85 0 39 ls st H = aGet (fun st => aGo cl none cd_85 0 42 ls st H) 7 0 H st) ∧
  (∀ ls st H, aGo cl none cd_85 0 42 ls st H = aCallV (fun st H => aGo cl none cd_85 0 45 ls st H) cl 1 1 0 H st) ∧
  (∀ ls st H, aGo cl none cd_85 0 45 ls st H = aGo cl none cd_85 0 46 ls (.int 0 :: st) H) ∧
  (∀ ls st H, aGo cl none cd_85 0 46 ls st H = aIStore (fun ls st => aGo cl none cd_85 0 47 ls st H) ls 3 st) ∧
  (∀ ls st H, aGo cl none cd_85 0 47 ls st H = aGo cl none cd_85 0 49 ls (.int 17 :: st) H) ∧
  (∀ ls st H, aGo cl none cd_85 0 49 ls st H = aIStore (fun ls st => aGo cl none cd_85 0 51 ls st H) ls 4 st) ∧
  (∀ ls st H, aGo cl none cd_85 0 51 ls st H = aGo cl none cd_85 0 52 ls (.int 0 :: st) H) ∧
  (∀ ls st H, aGo cl none cd_85 0 52 ls st H = aIStore (fun ls st => aGo cl none cd_85 0 54 ls st H) ls 5 st) ∧
  (∀ ls st H, aGo cl none cd_85 0 56 ls st H = aGo cl none cd_85 0 57 ls (.int 2 :: st) H) ∧
  (∀ ls st H, aGo cl none cd_85 0 57 ls st H = aIc (fun p st => aGo cl none cd_85 0 p ls st H) .gt 109 60 st) ∧
  (∀ ls st H, aGo cl none cd_85 0 60 ls st H = aRLoad (fun st => aGo cl none cd_85 0 61 ls st H) ls 0 st) ∧
  (∀ ls st H, aGo cl none cd_85 0 61 ls st H = aGet (fun st => aGo cl none cd_85 0 64 ls st H) 7 2 H st) ∧
  (∀ ls st H, aGo cl none cd_85 0 64 ls st H = aGet (fun st => aGo cl none cd_85 0 67 ls st H) 0 1 H st) ∧
  (∀ ls st H, aGo cl none cd_85 0 67 ls st H = aILoad (fun st => aGo cl none cd_85 0 68 ls st H) ls 1 st) ∧
  (∀ ls st H, aGo cl none cd_85 0 68 ls st H = aAald (fun st => aGo cl none cd_85 0 69 ls st H) H st) ∧
  (∀ ls st H, aGo cl none cd_85 0 69 ls st H = aILoad (fun st => aGo cl none cd_85 0 71 ls st H) ls 5 st) ∧
  (∀ ls st H, aGo cl none cd_85 0 71 ls st H = aPut (fun st H => aGo cl none cd_85 0 74 ls st H) 5 1 H st) ∧
  (∀ ls st H, aGo cl none cd_85 0 74 ls st H = aRLoad (fun st => aGo cl none cd_85 0 75 ls st H) ls 0 st) ∧
  (∀ ls st H, aGo cl none cd_85 0 75 ls st H = aILoad (fun st => aGo cl none cd_85 0 76 ls st H) ls 1 st) ∧
  (∀ ls st H, aGo cl none cd_85 0 76 ls st H = aGo cl none cd_85 0 77 ls (.int 0 :: st) H) ∧
  (∀ ls st H, aGo cl none cd_85 0 77 ls st H = aCallV (fun st H => aGo cl none cd_85 0 80 ls st H) cl 111 2 7 H st) ∧
  (∀ ls st H, aGo cl none cd_85 0 80 ls st H = aRLoad (fun st => aGo cl none cd_85 0 81 ls st H) ls 0 st) ∧
  (∀ ls st H, aGo cl none cd_85 0 81 ls st H = aILoad (fun st => aGo cl none cd_85 0 82 ls st H) ls 1 st) ∧
  (∀ ls st H, aGo cl none cd_85 0 82 ls st H = aGo cl none cd_85 0 83 ls (.int 1 :: st) H) ∧
  (∀ ls st H, aGo cl none cd_85 0 83 ls st H = aCallV (fun st H => aGo cl none cd_85 0 86 ls st H) cl 111 2 7 H st) ∧
  (∀ ls st H, aGo cl none cd_85 0 86 ls st H = aBin (fun st => aGo cl none cd_85 0 87 ls st H) (fun x y => x + y) st) ∧
  (∀ ls st H, aGo cl none cd_85 0 87 ls st H = aIStore (fun ls st => aGo cl none cd_85 0 89 ls st H) ls 6 st) ∧
  (∀ ls st H, aGo cl none cd_85 0 89 ls st H = aILoad (fun st => aGo cl none cd_85 0 91 ls st H) ls 6 st) ∧
  (∀ ls st H, aGo cl none cd_85 0 91 ls st H = aILoad (fun st => aGo cl none cd_85 0 93 ls st H) ls 4 st) ∧
  (∀ ls st H, aGo cl none cd_85 0 93 ls st H = aIc (fun p st => aGo cl none cd_85 0 p ls st H) .ge 103 96 st) ∧
  (∀ ls st H, aGo cl none cd_85 0 96 ls st H = aILoad (fun st => aGo cl none cd_85 0 98 ls st H) ls 6 st) ∧
  (∀ ls st H, aGo cl none cd_85 0 98 ls st H = aIStore (fun ls st => aGo cl none cd_85 0 100 ls st H) ls 4 st) ∧
  (∀ ls st H, aGo cl none cd_85 0 100 ls st H = aILoad (fun st => aGo cl none cd_85 0 102 ls st H) ls 5 st) ∧
  (∀ ls st H, aGo cl none cd_85 0 102 ls st H = aIStore (fun ls st => aGo cl none cd_85 0 103 ls st H) ls 3 st) ∧
  (∀ ls st H, aGo cl none cd_85 0 103 ls st H = aInc (fun ls => aGo cl none cd_85 0 106 ls st H) ls 5 1) ∧
  (∀ ls st H, aGo cl none cd_85 0 106 ls st H = aGo cl none cd_85 0 54 ls st H) ∧
  (∀ ls st H, aGo cl none cd_85 0 109 ls st H = aILoad (fun st => aGo cl none cd_85 0 110 ls st H) ls 3 st) ∧
  (∀ ls st H, aGo cl none cd_85 0 110 ls st H = aIret 0 st H) :=
  ⟨fun _ _ _ => (aGo_s rfl).trans rfl, fun _ _ _ => (aGo_s rfl).trans rfl, fun _ _ _ => (aGo_s rfl).trans rfl, fun _ _ _ => (aGo_s rfl).trans rfl, fun _ _ _ => (aGo_s rfl).trans rfl, fun _ _ _ => (aGo_s rfl).trans rfl, fun _ _ _ => (aGo_s rfl).trans rfl, fun _ _ _ => (aGo_s rfl).trans rfl, fun _ _ _ => (aGo_s rfl).trans rfl, fun _ _ _ => (aGo_s rfl).trans rfl, fun _ _ _ => (aGo_s rfl).trans rfl, fun _ _ _ => (aGo_s rfl).trans rfl, fun _ _ _ => (aGo_s rfl).trans rfl, fun _ _ _ => (aGo_s rfl).trans rfl, fun _ _ _ => (aGo_s rfl).trans rfl, fun _ _ _ => (aGo_s rfl).trans rfl, fun _ _ _ => (aGo_s rfl).trans rfl, fun _ _ _ => (aGo_s rfl).trans rfl, fun _ _ _ => (aGo_s rfl).trans rfl, fun _ _ _ => (aGo_s rfl).trans rfl, fun _ _ _ => (aGo_s rfl).trans rfl, fun _ _ _ => (aGo_s rfl).trans rfl, fun _ _ _ => (aGo_s rfl).trans rfl, fun _ _ _ => (aGo_s rfl).trans rfl, fun _ _ _ => (aGo_s rfl).trans rfl, fun _ _ _ => (aGo_s rfl).trans rfl, fun _ _ _ => (aGo_s rfl).trans rfl, fun _ _ _ => (aGo_s rfl).trans rfl, fun _ _ _ => (aGo_s rfl).trans rfl, fun _ _ _ => (aGo_s rfl).trans rfl, fun _ _ _ => (aGo_s rfl).trans rfl, fun _ _ _ => (aGo_s rfl).trans rfl, fun _ _ _ => (aGo_s rfl).trans rfl, fun _ _ _ => (aGo_s rfl).trans rfl, fun _ _ _ => (aGo_s rfl).trans rfl, fun _ _ _ => (aGo_s rfl).trans rfl, fun _ _ _ => (aGo_s rfl).trans rfl, fun _ _ _ => (aGo_s rfl).trans rfl, fun _ _ _ => (aGo_s rfl).trans rfl, fun _ _ _ => (aGo_s rfl).trans rfl, fun _ _ _ => (aGo_s rfl).trans rfl, fun _ _ _ => (aGo_s rfl).trans rfl, fun _ _ _ => (aGo_s rfl).trans rfl, fun _ _ _ => (aGo_s rfl).trans rfl, fun _ _ _ => (aGo_s rfl).trans rfl, fun _ _ _ => (aGo_s rfl).trans rfl, fun _ _ _ => (aGo_s rfl).trans rfl, fun _ _ _ => (aGo_s rfl).trans rfl, fun _ _ _ => (aGo_s rfl).trans rfl, fun _ _ _ => (aGo_s rfl).trans rfl, fun _ _ _ => (aGo_s rfl).trans rfl, fun _ _ _ => (aGo_s rfl).trans rfl, fun _ _ _ => (aGo_s rfl).trans rfl, fun _ _ _ => (aGo_s rfl).trans rfl, fun _ _ _ => (aGo_s rfl).trans rfl, fun _ _ _ => (aGo_s rfl).trans rfl, fun _ _ _ => (aGo_s rfl).trans rfl, fun _ _ _ => (aGo_s rfl).trans rfl, fun _ _ _ => (aGo_s rfl).trans rfl⟩
theorem s_85_54 {cl : Nat → List Value → aH → aRs} : ∀ ls st H, aGo cl none cd_85 0 54 ls st H = aILoad (fun st => aGo cl none cd_85 0 56 ls st H) ls 5 st := fun _ _ _ => (aGo_s rfl).trans rfl
theorem e_85 {d : Nat} {x0 : Nat} {x1 : Int32} {H : aH} : aCall aMt (d + 1) 85 [.ref x0, .int x1] H = aGo (aCall aMt d) none cd_85 0 0 [some (.ref x0), some (.int x1), none, none, none, none, none] [] H := (c_0 rfl ⟨rfl, Nat.le_of_ble_eq_true rfl, Nat.le_of_ble_eq_true rfl⟩).trans rfl
theorem s_86 {cl : Nat → List Value → aH → aRs} : (∀ ls st H, aGo cl none cd_86 0 0 ls st H = aILoad (fun st => aGo cl none cd_86 0 1 ls st H) ls 1 st) ∧
  (∀ ls st H, aGo cl none cd_86 0 1 ls st H = aGo cl none cd_86 0 2 ls (.int 0 :: st) H) ∧
  (∀ ls st H, aGo cl none cd_86 0 2 ls st H = aGo cl none cd_86 0 3 ls (.int 1 :: st) H) ∧
  (∀ ls st H, aGo cl none cd_86 0 3 ls st H = aCallI (fun st H => aGo cl none cd_86 0 6 ls st H) cl 106 3 H st) ∧
  (∀ ls st H, aGo cl none cd_86 0 6 ls st H = aIf (fun p st => aGo cl none cd_86 0 p ls st H) .ne 16 9 st) ∧
  (∀ ls st H, aGo cl none cd_86 0 9 ls st H = aRLoad (fun st => aGo cl none cd_86 0 10 ls st H) ls 0 st) ∧
  (∀ ls st H, aGo cl none cd_86 0 10 ls st H = aGo cl none cd_86 0 12 ls (.int (-1000000001) :: st) H) ∧
  (∀ ls st H, aGo cl none cd_86 0 12 ls st H = aCallV (fun st H => aGo cl none cd_86 0 15 ls st H) cl 105 1 7 H st) ∧
  (∀ ls st H, aGo cl none cd_86 0 15 ls st H = aIret 0 st H) ∧
  (∀ ls st H, aGo cl none cd_86 0 16 ls st H = aRLoad (fun st => aGo cl none cd_86 0 17 ls st H) ls 0 st) ∧
  (∀ ls st H, aGo cl none cd_86 0 17 ls st H = aCallV (fun st H => aGo cl none cd_86 0 20 ls st H) cl 112 0 7 H st) ∧
  (∀ ls st H, aGo cl none cd_86 0 20 ls st H = aIStore (fun ls st => aGo cl none cd_86 0 21 ls st H) ls 2 st) ∧
  (∀ ls st H, aGo cl none cd_86 0 21 ls st H = aILoad (fun st => aGo cl none cd_86 0 22 ls st H) ls 1 st) ∧
  (∀ ls st H, aGo cl none cd_86 0 22 ls st H = aIf (fun p st => aGo cl none cd_86 0 p ls st H) .ne 32 25 st) ∧
  (∀ ls st H, aGo cl none cd_86 0 25 ls st H = aILoad (fun st => aGo cl none cd_86 0 26 ls st H) ls 2 st) ∧
  (∀ ls st H, aGo cl none cd_86 0 26 ls st H = aCallI (fun st H => aGo cl none cd_86 0 29 ls st H) cl 219 1 H st) ∧
  (∀ ls st H, aGo cl none cd_86 0 29 ls st H = aGo cl none cd_86 0 33 ls st H) ∧
  (∀ ls st H, aGo cl none cd_86 0 32 ls st H = aILoad (fun st => aGo cl none cd_86 0 33 ls st H) ls 2 st) ∧
  (∀ ls st H, aGo cl none cd_86 0 33 ls st H = aIret 0 st H) :=
  ⟨fun _ _ _ => (aGo_s rfl).trans rfl, fun _ _ _ => (aGo_s rfl).trans rfl, fun _ _ _ => (aGo_s rfl).trans rfl, fun _ _ _ => (aGo_s rfl).trans rfl, fun _ _ _ => (aGo_s rfl).trans rfl, fun _ _ _ => (aGo_s rfl).trans rfl, fun _ _ _ => (aGo_s rfl).trans rfl, fun _ _ _ => (aGo_s rfl).trans rfl, fun _ _ _ => (aGo_s rfl).trans rfl, fun _ _ _ => (aGo_s rfl).trans rfl, fun _ _ _ => (aGo_s rfl).trans rfl, fun _ _ _ => (aGo_s rfl).trans rfl, fun _ _ _ => (aGo_s rfl).trans rfl, fun _ _ _ => (aGo_s rfl).trans rfl, fun _ _ _ => (aGo_s rfl).trans rfl, fun _ _ _ => (aGo_s rfl).trans rfl, fun _ _ _ => (aGo_s rfl).trans rfl, fun _ _ _ => (aGo_s rfl).trans rfl, fun _ _ _ => (aGo_s rfl).trans rfl⟩
theorem e_86 {d : Nat} {x0 : Nat} {x1 : Int32} {H : aH} : aCall aMt (d + 1) 86 [.ref x0, .int x1] H = aGo (aCall aMt d) none cd_86 0 0 [some (.ref x0), some (.int x1), none] [] H := (c_0 rfl ⟨rfl, Nat.le_of_ble_eq_true rfl, Nat.le_of_ble_eq_true rfl⟩).trans rfl
theorem s_87 {cl : Nat → List Value → aH → aRs} : (∀ ls st H, aGo cl none cd_87 0 0 ls st H = aRLoad (fun st => aGo cl none cd_87 0 1 ls st H) ls 0 st) ∧
  (∀ ls st H, aGo cl none cd_87 0 1 ls st H = aGet (fun st => aGo cl none cd_87 0 4 ls st H) 7 0 H st) ∧
  (∀ ls st H, aGo cl none cd_87 0 4 ls st H = aILoad (fun st => aGo cl none cd_87 0 5 ls st H) ls 1 st) ∧
  (∀ ls st H, aGo cl none cd_87 0 5 ls st H = aCallV (fun st H => aGo cl none cd_87 0 8 ls st H) cl 2 1 0 H st) ∧
  (∀ ls st H, aGo cl none cd_87 0 8 ls st H = aNul (fun p st => aGo cl none cd_87 0 p ls st H) 20 11 st) ∧
  (∀ ls st H, aGo cl none cd_87 0 11 ls st H = aILoad (fun st => aGo cl none cd_87 0 12 ls st H) ls 2 st) ∧
  (∀ ls st H, aGo cl none cd_87 0 12 ls st H = aGo cl none cd_87 0 13 ls (.int 0 :: st) H) ∧
  (∀ ls st H, aGo cl none cd_87 0 13 ls st H = aGo cl none cd_87 0 14 ls (.int 1 :: st) H) ∧
  (∀ ls st H, aGo cl none cd_87 0 14 ls st H = aCallI (fun st H => aGo cl none cd_87 0 17 ls st H) cl 106 3 H st) ∧
  (∀ ls st H, aGo cl none cd_87 0 17 ls st H = aIf (fun p st => aGo cl none cd_87 0 p ls st H) .ne 27 20 st) ∧
  (∀ ls st H, aGo cl none cd_87 0 20 ls st H = aRLoad (fun st => aGo cl none cd_87 0 21 ls st H) ls 0 st) ∧
  (∀ ls st H, aGo cl none cd_87 0 21 ls st H = aGo cl none cd_87 0 23 ls (.int (-1000000001) :: st) H) ∧
  (∀ ls st H, aGo cl none cd_87 0 23 ls st H = aCallV (fun st H => aGo cl none cd_87 0 26 ls st H) cl 105 1 7 H st) ∧
  (∀ ls st H, aGo cl none cd_87 0 26 ls st H = aIret 0 st H) ∧
  (∀ ls st H, aGo cl none cd_87 0 27 ls st H = aRLoad (fun st => aGo cl none cd_87 0 28 ls st H) ls 0 st) ∧
  (∀ ls st H, aGo cl none cd_87 0 28 ls st H = aGet (fun st => aGo cl none cd_87 0 31 ls st H) 7 7 H st) ∧
  (∀ ls st H, aGo cl none cd_87 0 31 ls st H = aGo cl none cd_87 0 32 ls (.int (-1) :: st) H) ∧
  (∀ ls st H, aGo cl none cd_87 0 32 ls st H = aCallI (fun st H => aGo cl none cd_87 0 35 ls st H) cl 220 2 H st) ∧
  (∀ ls st H, aGo cl none cd_87 0 35 ls st H = aILoad (fun st => aGo cl none cd_87 0 36 ls st H) ls 1 st) ∧
  (∀ ls st H, aGo cl none cd_87 0 36 ls st H = aIStore (fun ls st => aGo cl none cd_87 0 37 ls st H) ls 3 st) ∧
  (∀ ls st H, aGo cl none cd_87 0 37 ls st H = aGo cl none cd_87 0 38 ls (.int 0 :: st) H) ∧
  (∀ ls st H, aGo cl none cd_87 0 38 ls st H = aIStore (fun ls st => aGo cl none cd_87 0 40 ls st H) ls 4 st) ∧
  (∀ ls st H, aGo cl none cd_87 0 42 ls st H = aGo cl none cd_87 0 44 ls (.int 8 :: st) H) ∧
  (∀ ls st H, aGo cl none cd_87 0 44 ls st H = aIc (fun p st => aGo cl none cd_87 0 p ls st H) .ge 90 47 st) ∧
  (∀ ls st H, aGo cl none cd_87 0 47 ls st H = aILoad (fun st => aGo cl none cd_87 0 48 ls st H) ls 3 st) ∧
  (∀ ls st H, aGo cl none cd_87 0 48 ls st H = aGo cl none cd_87 0 49 ls (.int 0 :: st) H) ∧
  (∀ ls st H, aGo cl none cd_87 0 49 ls st H = aGo cl none cd_87 0 51 ls (.int 7 :: st) H) ∧
  (∀ ls st H, aGo cl none cd_87 0 51 ls st H = aCallI (fun st H => aGo cl none cd_87 0 54 ls st H) cl 106 3 H st) ∧
  (∀ ls st H, aGo cl none cd_87 0 54 ls st H = aIf (fun p st => aGo cl none cd_87 0 p ls st H) .eq 90 57 st) ∧
  (∀ ls st H, aGo cl none cd_87 0 57 ls st H = aRLoad (fun st => aGo cl none cd_87 0 58 ls st H) ls 0 st) ∧
  (∀ ls st H, aGo cl none cd_87 0 58 ls st H = aGet (fun st => aGo cl none cd_87 0 61 ls st H) 7 7 H st) ∧
  (∀ ls st H, aGo cl none cd_87 0 61 ls st H = aILoad (fun st => aGo cl none cd_87 0 62 ls st H) ls 3 st) ∧
  (∀ ls st H, aGo cl none cd_87 0 62 ls st H = aIald (fun st => aGo cl none cd_87 0 63 ls st H) none H st) ∧
  (∀ ls st H, aGo cl none cd_87 0 63 ls st H = aGo cl none cd_87 0 64 ls (.int (-1) :: st) H) ∧
  (∀ ls st H, aGo cl none cd_87 0 64 ls st H = aIc (fun p st => aGo cl none cd_87 0 p ls st H) .ne 90 67 st) ∧
  (∀ ls st H, aGo cl none cd_87 0 67 ls st H = aRLoad (fun st => aGo cl none cd_87 0 68 ls st H) ls 0 st) ∧
  (∀ ls st H, aGo cl none cd_87 0 68 ls st H = aGet (fun st => aGo cl none cd_87 0 71 ls st H) 7 7 H st) ∧
  (∀ ls st H, aGo cl none cd_87 0 71 ls st H = aILoad (fun st => aGo cl none cd_87 0 72 ls st H) ls 3 st) ∧
  (∀ ls st H, aGo cl none cd_87 0 72 ls st H = aILoad (fun st => aGo cl none cd_87 0 74 ls st H) ls 4 st) ∧
  (∀ ls st H, aGo cl none cd_87 0 74 ls st H = aIast (fun st H => aGo cl none cd_87 0 75 ls st H) H st) ∧
  (∀ ls st H, aGo cl none cd_87 0 75 ls st H = aInc (fun ls => aGo cl none cd_87 0 78 ls st H) ls 4 1) ∧
  (∀ ls st H, aGo cl none cd_87 0 78 ls st H = aRLoad (fun st => aGo cl none cd_87 0 79 ls st H) ls 0 st) ∧
  (∀ ls st H, aGo cl none cd_87 0 79 ls st H = aGet (fun st => aGo cl none cd_87 0 82 ls st H) 7 0 H st) ∧
  (∀ ls st H, aGo cl none cd_87 0 82 ls st H = aILoad (fun st => aGo cl none cd_87 0 83 ls st H) ls 3 st) ∧
  (∀ ls st H, aGo cl none cd_87 0 83 ls st H = aCallV (fun st H => aGo cl none cd_87 0 86 ls st H) cl 11 1 0 H st) ∧
  (∀ ls st H, aGo cl none cd_87 0 86 ls st H = aIStore (fun ls st => aGo cl none cd_87 0 87 ls st H) ls 3 st) ∧
  (∀ ls st H, aGo cl none cd_87 0 87 ls st H = aGo cl none cd_87 0 40 ls st H) ∧
  (∀ ls st H, aGo cl none cd_87 0 90 ls st H = aILoad (fun st => aGo cl none cd_87 0 91 ls st H) ls 3 st) ∧
  (∀ ls st H, aGo cl none cd_87 0 91 ls st H = aGo cl none cd_87 0 92 ls (.int 0 :: st) H) ∧
  (∀ ls st H, aGo cl none cd_87 0 92 ls st H = aGo cl none cd_87 0 94 ls (.int 7 :: st) H) ∧
  (∀ ls st H, aGo cl none cd_87 0 94 ls st H = aCallI (fun st H => aGo cl none cd_87 0 97 ls st H) cl 106 3 H st) ∧
  (∀ ls st H, aGo cl none cd_87 0 97 ls st H = aIf (fun p st => aGo cl none cd_87 0 p ls st H) .ne 113 100 st) ∧
  (∀ ls st H, aGo cl none cd_87 0 100 ls st H = aILoad (fun st => aGo cl none cd_87 0 101 ls st H) ls 2 st) ∧
  (∀ ls st H, aGo cl none cd_87 0 101 ls st H = aIf (fun p st => aGo cl none cd_87 0 p ls st H) .ne 111 104 st) ∧
  (∀ ls st H, aGo cl none cd_87 0 104 ls st H = aILoad (fun st => aGo cl none cd_87 0 106 ls st H) ls 4 st) ∧
  (∀ ls st H, aGo cl none cd_87 0 106 ls st H = aGo cl none cd_87 0 107 ls (.int 1 :: st) H) ∧
  (∀ ls st H, aGo cl none cd_87 0 107 ls st H = aBin (fun st => aGo cl none cd_87 0 108 ls st H) (fun x y => x - y) st) ∧
  (∀ ls st H, aGo cl none cd_87 0 108 ls st H = aGo cl none cd_87 0 112 ls st H) ∧
  (∀ ls st H, aGo cl none cd_87 0 111 ls st H = aGo cl none cd_87 0 112 ls (.int 0 :: st) H) ∧
  (∀ ls st H, aGo cl none cd_87 0 112 ls st H = aIret 0 st H) ∧
  (∀ ls st H, aGo cl none cd_87 0 113 ls st H = aILoad (fun st => aGo cl none cd_87 0 114 ls st H) ls 2 st) ∧
  (∀ ls st H, aGo cl none cd_87 0 114 ls st H = aIf (fun p st => aGo cl none cd_87 0 p ls st H) .ne 126 117 st) ∧
  (∀ ls st H, aGo cl none cd_87 0 117 ls st H = aRLoad (fun st => aGo cl none cd_87 0 118 ls st H) ls 0 st) ∧
  (∀ ls st H, aGo cl none cd_87 0 118 ls st H = aGet (fun st => aGo cl none cd_87 0 121 ls st H) 7 7 H st) ∧
  (∀ ls st H, aGo cl none cd_87 0 121 ls st H = aILoad (fun st => aGo cl none cd_87 0 122 ls st H) ls 3 st) ∧
  (∀ ls st H, aGo cl none cd_87 0 122 ls st H = aIald (fun st => aGo cl none cd_87 0 123 ls st H) none H st) ∧
  (∀ ls st H, aGo cl none cd_87 0 123 ls st H = aGo cl none cd_87 0 135 ls st H) ∧
  (∀ ls st H, aGo cl none cd_87 0 126 ls st H = aILoad (fun st => aGo cl none cd_87 0 128 ls st H) ls 4 st) ∧
  (∀ ls st H, aGo cl none cd_87 0 128 ls st H = aRLoad (fun st => aGo cl none cd_87 0 129 ls st H) ls 0 st) ∧
  (∀ ls st H, aGo cl none cd_87 0 129 ls st H = aGet (fun st => aGo cl none cd_87 0 132 ls st H) 7 7 H st) ∧
  (∀ ls st H, aGo cl none cd_87 0 132 ls st H = aILoad (fun st => aGo cl none cd_87 0 133 ls st H) ls 3 st) ∧
  (∀ ls st H, aGo cl none cd_87 0 133 ls st H = aIald (fun st => aGo cl none cd_87 0 134 ls st H) none H st) ∧
  (∀ ls st H, aGo cl none cd_87 0 134 ls st H = aBin (fun st => aGo cl none cd_87 0 135 ls st H) (fun x y => x - y) st) ∧
  (∀ ls st H, aGo cl none cd_87 0 135 ls st H = aIret 0 st H) :=
  ⟨fun _ _ _ => (aGo_s rfl).trans rfl, fun _ _ _ => (aGo_s rfl).trans rfl, fun _ _ _ => (aGo_s rfl).trans rfl, fun _ _ _ => (aGo_s rfl).trans rfl, fun _ _ _ => (aGo_s rfl).trans rfl, fun _ _ _ => (aGo_s rfl).trans rfl, fun _ _ _ => (aGo_s rfl).trans rfl, fun _ _ _ => (aGo_s rfl).trans rfl, fun _ _ _ => (aGo_s rfl).trans rfl, fun _ _ _ => (aGo_s rfl).trans rfl, fun _ _ _ => (aGo_s rfl).trans rfl, fun _ _ _ => (aGo_s rfl).trans rfl, fun _ _ _ => (aGo_s rfl).trans rfl, fun _ _ _ => (aGo_s rfl).trans rfl, fun _ _ _ => (aGo_s rfl).trans rfl, fun _ _ _ => (aGo_s rfl).trans rfl, fun _ _ _ => (aGo_s rfl).trans rfl, fun _ _ _ => (aGo_s rfl).trans rfl, fun _ _ _ => (aGo_s rfl).trans rfl, fun _ _ _ => (aGo_s rfl).trans rfl, fun _ _ _ => (aGo_s rfl).trans rfl, fun _ _ _ => (aGo_s rfl).trans rfl, fun _ _ _ => (aGo_s rfl).trans rfl, fun _ _ _ => (aGo_s rfl).trans rfl, fun _ _ _ => (aGo_s rfl).trans rfl, fun _ _ _ => (aGo_s rfl).trans rfl, fun _ _ _ => (aGo_s rfl).trans rfl, fun _ _ _ => (aGo_s rfl).trans rfl, fun _ _ _ => (aGo_s rfl).trans rfl, fun _ _ _ => (aGo_s rfl).trans rfl, fun _ _ _ => (aGo_s rfl).trans rfl, fun _ _ _ => (aGo_s rfl).trans rfl, fun _ _ _ => (aGo_s rfl).trans rfl, fun _ _ _ => (aGo_s rfl).trans rfl, fun _ _ _ => (aGo_s rfl).trans rfl, fun _ _ _ => (aGo_s rfl).trans rfl, fun _ _ _ => (aGo_s rfl).trans rfl, fun _ _ _ => (aGo_s rfl).trans rfl, fun _ _ _ => (aGo_s rfl).trans rfl, fun _ _ _ => (aGo_s rfl).trans rfl, fun _ _ _ => (aGo_s rfl).trans rfl, fun _ _ _ => (aGo_s rfl).trans rfl, fun _ _ _ => (aGo_s rfl).trans rfl, fun _ _ _ => (aGo_s rfl).trans rfl, fun _ _ _ => (aGo_s rfl).trans rfl, fun _ _ _ => (aGo_s rfl).trans rfl, fun _ _ _ => (aGo_s rfl).trans rfl, fun _ _ _ => (aGo_s rfl).trans rfl, fun _ _ _ => (aGo_s rfl).trans rfl, fun _ _ _ => (aGo_s rfl).trans rfl, fun _ _ _ => (aGo_s rfl).trans rfl, fun _ _ _ => (aGo_s rfl).trans rfl, fun _ _ _ => (aGo_s rfl).trans rfl, fun _ _ _ => (aGo_s rfl).trans rfl, fun _ _ _ => (aGo_s rfl).trans rfl, fun _ _ _ => (aGo_s rfl).trans rfl, fun _ _ _ => (aGo_s rfl).trans rfl, fun _ _ _ => (aGo_s rfl).trans rfl, fun _ _ _ => (aGo_s rfl).trans rfl, fun _ _ _ => (aGo_s rfl).trans rfl, fun _ _ _ => (aGo_s rfl).trans rfl, fun _ _ _ => (aGo_s rfl).trans rfl, fun _ _ _ => (aGo_s rfl).trans rfl, fun _ _ _ => (aGo_s rfl).trans rfl, fun _ _ _ => (aGo_s rfl).trans rfl, fun _ _ _ => (aGo_s rfl).trans rfl, fun _ _ _ => (aGo_s rfl).trans rfl, fun _ _ _ => (aGo_s rfl).trans rfl, fun _ _ _ => (aGo_s rfl).trans rfl, fun _ _ _ => (aGo_s rfl).trans rfl, fun _ _ _ => (aGo_s rfl).trans rfl, fun _ _ _ => (aGo_s rfl).trans rfl, fun _ _ _ => (aGo_s rfl).trans rfl, fun _ _ _ => (aGo_s rfl).trans rfl⟩
theorem s_87_40 {cl : Nat → List Value → aH → aRs} : ∀ ls st H, aGo cl none cd_87 0 40 ls st H = aILoad (fun st => aGo cl none cd_87 0 42 ls st H) ls 4 st := fun _ _ _ => (aGo_s rfl).trans rfl
theorem e_87 {d : Nat} {x0 : Nat} {x1 : Int32} {x2 : Int32} {H : aH} : aCall aMt (d + 1) 87 [.ref x0, .int x1, .int x2] H = aGo (aCall aMt d) none cd_87 0 0 [some (.ref x0), some (.int x1), some (.int x2), none, none] [] H := (c_0 rfl ⟨rfl, Nat.le_of_ble_eq_true rfl, Nat.le_of_ble_eq_true rfl⟩).trans rfl
theorem s_88 {cl : Nat → List Value → aH → aRs} : (∀ ls st H, aGo cl none cd_88 0 0 ls st H = aRLoad (fun st => aGo cl none cd_88 0 1 ls st H) ls 0 st) ∧
  (∀ ls st H, aGo cl none cd_88 0 1 ls st H = aGet (fun st => aGo cl none cd_88 0 4 ls st H) 7 0 H st) ∧
  (∀ ls st H, aGo cl none cd_88 0 4 ls st H = aILoad (fun st => aGo cl none cd_88 0 5 ls st H) ls 1 st) ∧
  (∀ ls st H, aGo cl none cd_88 0 5 ls st H = aCallV (fun st H => aGo cl none cd_88 0 8 ls st H) cl 3 1 0 H st) ∧
  (∀ ls st H, aGo cl none cd_88 0 8 ls st H = aNul (fun p st => aGo cl none cd_88 0 p ls st H) 20 11 st) ∧
  (∀ ls st H, aGo cl none cd_88 0 11 ls st H = aILoad (fun st => aGo cl none cd_88 0 12 ls st H) ls 2 st) ∧
  (∀ ls st H, aGo cl none cd_88 0 12 ls st H = aGo cl none cd_88 0 13 ls (.int 0 :: st) H) ∧
  (∀ ls st H, aGo cl none cd_88 0 13 ls st H = aGo cl none cd_88 0 14 ls (.int 1 :: st) H) ∧
  (∀ ls st H, aGo cl none cd_88 0 14 ls st H = aCallI (fun st H => aGo cl none cd_88 0 17 ls st H) cl 106 3 H st) ∧
  (∀ ls st H, aGo cl none cd_88 0 17 ls st H = aIf (fun p st => aGo cl none cd_88 0 p ls st H) .ne 27 20 st) ∧
  (∀ ls st H, aGo cl none cd_88 0 20 ls st H = aRLoad (fun st => aGo cl none cd_88 0 21 ls st H) ls 0 st) ∧
  (∀ ls st H, aGo cl none cd_88 0 21 ls st H = aGo cl none cd_88 0 23 ls (.int (-1000000001) :: st) H) ∧
  (∀ ls st H, aGo cl none cd_88 0 23 ls st H = aCallV (fun st H => aGo cl none cd_88 0 26 ls st H) cl 105 1 7 H st) ∧
  (∀ ls st H, aGo cl none cd_88 0 26 ls st H = aIret 0 st H) ∧
  (∀ ls st H, aGo cl none cd_88 0 27 ls st H = aRLoad (fun st => aGo cl none cd_88 0 28 ls st H) ls 0 st) ∧
  (∀ ls st H, aGo cl none cd_88 0 28 ls st H = aGet (fun st => aGo cl none cd_88 0 31 ls st H) 7 0 H st) ∧
  (∀ ls st H, aGo cl none cd_88 0 31 ls st H = aILoad (fun st => aGo cl none cd_88 0 32 ls st H) ls 1 st) ∧
  (∀ ls st H, aGo cl none cd_88 0 32 ls st H = aGo cl none cd_88 0 33 ls (.int 0 :: st) H) ∧
  (∀ ls st H, aGo cl none cd_88 0 33 ls st H = aCallV (fun st H => aGo cl none cd_88 0 36 ls st H) cl 10 2 0 H st) ∧
  (∀ ls st H, aGo cl none cd_88 0 36 ls st H = aCallI (fun st H => aGo cl none cd_88 0 39 ls st H) cl 219 1 H st) ∧
  (∀ ls st H, aGo cl none cd_88 0 39 ls st H = aRLoad (fun st => aGo cl none cd_88 0 40 ls st H) ls 0 st) ∧
  (∀ ls st H, aGo cl none cd_88 0 40 ls st H = aGet (fun st => aGo cl none cd_88 0 43 ls st H) 7 0 H st) ∧
  (∀ ls st H, aGo cl none cd_88 0 43 ls st H = aILoad (fun st => aGo cl none cd_88 0 44 ls st H) ls 1 st) ∧
  (∀ ls st H, aGo cl none cd_88 0 44 ls st H = aGo cl none cd_88 0 45 ls (.int 1 :: st) H) ∧
  (∀ ls st H, aGo cl none cd_88 0 45 ls st H = aCallV (fun st H => aGo cl none cd_88 0 48 ls st H) cl 10 2 0 H st) ∧
  (∀ ls st H, aGo cl none cd_88 0 48 ls st H = aCallI (fun st H => aGo cl none cd_88 0 51 ls st H) cl 219 1 H st) ∧
  (∀ ls st H, aGo cl none cd_88 0 51 ls st H = aBin (fun st => aGo cl none cd_88 0 52 ls st H) (fun x y => x + y) st) ∧
  (∀ ls st H, aGo cl none cd_88 0 52 ls st H = aIStore (fun ls st => aGo cl none cd_88 0 53 ls st H) ls 3 st) ∧
  (∀ ls st H, aGo cl none cd_88 0 53 ls st H = aGo cl none cd_88 0 54 ls (.int 2 :: st) H) ∧
  (∀ ls st H, aGo cl none cd_88 0 54 ls st H = aRLoad (fun st => aGo cl none cd_88 0 55 ls st H) ls 0 st) ∧
  (∀ ls st H, aGo cl none cd_88 0 55 ls st H = aGet (fun st => aGo cl none cd_88 0 58 ls st H) 7 0 H st) ∧
  (∀ ls st H, aGo cl none cd_88 0 58 ls st H = aGet (fun st => aGo cl none cd_88 0 61 ls st H) 0 6 H st) ∧
  (∀ ls st H, aGo cl none cd_88 0 61 ls st H = aBin (fun st => aGo cl none cd_88 0 62 ls st H) (fun x y => x * y) st) ∧
  (∀ ls st H, aGo cl none cd_88 0 62 ls st H = aIStore (fun ls st => aGo cl none cd_88 0 64 ls st H) ls 4 st) ∧
  (∀ ls st H, aGo cl none cd_88 0 64 ls st H = aILoad (fun st => aGo cl none cd_88 0 65 ls st H) ls 3 st) ∧
  (∀ ls st H, aGo cl none cd_88 0 65 ls st H = aILoad (fun st => aGo cl none cd_88 0 67 ls st H) ls 4 st) ∧
  (∀ ls st H, aGo cl none cd_88 0 67 ls st H = aCallI (fun st H => aGo cl none cd_88 0 70 ls st H) cl 113 2 H st) ∧
  (∀ ls st H, aGo cl none cd_88 0 70 ls st H = aIStore (fun ls st => aGo cl none cd_88 0 72 ls st H) ls 5 st) ∧
  (∀ ls st H, aGo cl none cd_88 0 72 ls st H = aILoad (fun st => aGo cl none cd_88 0 73 ls st H) ls 2 st) ∧
  (∀ ls st H, aGo cl none cd_88 0 73 ls st H = aIf (fun p st => aGo cl none cd_88 0 p ls st H) .ne 83 76 st) ∧
  (∀ ls st H, aGo cl none cd_88 0 76 ls st H = aILoad (fun st => aGo cl none cd_88 0 77 ls st H) ls 3 st) ∧
  (∀ ls st H, aGo cl none cd_88 0 77 ls st H = aILoad (fun st => aGo cl none cd_88 0 79 ls st H) ls 5 st) ∧
  (∀ ls st H, aGo cl none cd_88 0 79 ls st H = aDiv (fun st => aGo cl none cd_88 0 80 ls st H) st) ∧
  (∀ ls st H, aGo cl none cd_88 0 80 ls st H = aGo cl none cd_88 0 88 ls st H) ∧
  (∀ ls st H, aGo cl none cd_88 0 83 ls st H = aILoad (fun st => aGo cl none cd_88 0 85 ls st H) ls 4 st) ∧
  (∀ ls st H, aGo cl none cd_88 0 85 ls st H = aILoad (fun st => aGo cl none cd_88 0 87 ls st H) ls 5 st) ∧
  (∀ ls st H, aGo cl none cd_88 0 87 ls st H = aDiv (fun st => aGo cl none cd_88 0 88 ls st H) st) ∧
  (∀ ls st H, aGo cl none cd_88 0 88 ls st H = aIret 0 st H) :=
  ⟨fun _ _ _ => (aGo_s rfl).trans rfl, fun _ _ _ => (aGo_s rfl).trans rfl, fun _ _ _ => (aGo_s rfl).trans rfl, fun _ _ _ => (aGo_s rfl).trans rfl, fun _ _ _ => (aGo_s rfl).trans rfl, fun _ _ _ => (aGo_s rfl).trans rfl, fun _ _ _ => (aGo_s rfl).trans rfl, fun _ _ _ => (aGo_s rfl).trans rfl, fun _ _ _ => (aGo_s rfl).trans rfl, fun _ _ _ => (aGo_s rfl).trans rfl, fun _ _ _ => (aGo_s rfl).trans rfl, fun _ _ _ => (aGo_s rfl).trans rfl, fun _ _ _ => (aGo_s rfl).trans rfl, fun _ _ _ => (aGo_s rfl).trans rfl, fun _ _ _ => (aGo_s rfl).trans rfl, fun _ _ _ => (aGo_s rfl).trans rfl, fun _ _ _ => (aGo_s rfl).trans rfl, fun _ _ _ => (aGo_s rfl).trans rfl, fun _ _ _ => (aGo_s rfl).trans rfl, fun _ _ _ => (aGo_s rfl).trans rfl, fun _ _ _ => (aGo_s rfl).trans rfl, fun _ _ _ => (aGo_s rfl).trans rfl, fun _ _ _ => (aGo_s rfl).trans rfl, fun _ _ _ => (aGo_s rfl).trans rfl, fun _ _ _ => (aGo_s rfl).trans rfl, fun _ _ _ => (aGo_s rfl).trans rfl, fun _ _ _ => (aGo_s rfl).trans rfl, fun _ _ _ => (aGo_s rfl).trans rfl, fun _ _ _ => (aGo_s rfl).trans rfl, fun _ _ _ => (aGo_s rfl).trans rfl, fun _ _ _ => (aGo_s rfl).trans rfl, fun _ _ _ => (aGo_s rfl).trans rfl, fun _ _ _ => (aGo_s rfl).trans rfl, fun _ _ _ => (aGo_s rfl).trans rfl, fun _ _ _ => (aGo_s rfl).trans rfl, fun _ _ _ => (aGo_s rfl).trans rfl, fun _ _ _ => (aGo_s rfl).trans rfl, fun _ _ _ => (aGo_s rfl).trans rfl, fun _ _ _ => (aGo_s rfl).trans rfl, fun _ _ _ => (aGo_s rfl).trans rfl, fun _ _ _ => (aGo_s rfl).trans rfl, fun _ _ _ => (aGo_s rfl).trans rfl, fun _ _ _ => (aGo_s rfl).trans rfl, fun _ _ _ => (aGo_s rfl).trans rfl, fun _ _ _ => (aGo_s rfl).trans rfl, fun _ _ _ => (aGo_s rfl).trans rfl, fun _ _ _ => (aGo_s rfl).trans rfl, fun _ _ _ => (aGo_s rfl).trans rfl⟩
theorem e_88 {d : Nat} {x0 : Nat} {x1 : Int32} {x2 : Int32} {H : aH} : aCall aMt (d + 1) 88 [.ref x0, .int x1, .int x2] H = aGo (aCall aMt d) none cd_88 0 0 [some (.ref x0), some (.int x1), some (.int x2), none, none, none] [] H := (c_0 rfl ⟨rfl, Nat.le_of_ble_eq_true rfl, Nat.le_of_ble_eq_true rfl⟩).trans rfl
theorem s_89 {cl : Nat → List Value → aH → aRs} : (∀ ls st H, aGo cl none cd_89 0 0 ls st H = aRLoad (fun st => aGo cl none cd_89 0 1 ls st H) ls 0 st) ∧
  (∀ ls st H, aGo cl none cd_89 0 1 ls st H = aILoad (fun st => aGo cl none cd_89 0 2 ls st H) ls 1 st) ∧
  (∀ ls st H, aGo cl none cd_89 0 2 ls st H = aCallV (fun st H => aGo cl none cd_89 0 5 ls st H) cl 110 1 7 H st) ∧
  (∀ ls st H, aGo cl none cd_89 0 5 ls st H = aRStore (fun ls st => aGo cl none cd_89 0 6 ls st H) ls 2 st) ∧
  (∀ ls st H, aGo cl none cd_89 0 6 ls st H = aRLoad (fun st => aGo cl none cd_89 0 7 ls st H) ls 2 st) ∧
  (∀ ls st H, aGo cl none cd_89 0 7 ls st H = aNul (fun p st => aGo cl none cd_89 0 p ls st H) 10 17 st) ∧
  (∀ ls st H, aGo cl none cd_89 0 10 ls st H = aRLoad (fun st => aGo cl none cd_89 0 11 ls st H) ls 0 st) ∧
  (∀ ls st H, aGo cl none cd_89 0 11 ls st H = aGo cl none cd_89 0 13 ls (.int (-1000000001) :: st) H) ∧
  (∀ ls st H, aGo cl none cd_89 0 13 ls st H = aCallV (fun st H => aGo cl none cd_89 0 16 ls st H) cl 105 1 7 H st) ∧
  (∀ ls st H, aGo cl none cd_89 0 16 ls st H = aIret 0 st H) ∧
  (∀ ls st H, aGo cl none cd_89 0 17 ls st H = aRLoad (fun st => aGo cl none cd_89 0 18 ls st H) ls 2 st) ∧
  (∀ ls st H, aGo cl none cd_89 0 18 ls st H = aCallV (fun st H => aGo cl none cd_89 0 21 ls st H) cl 46 0 4 H st) ∧
  (∀ ls st H, aGo cl none cd_89 0 21 ls st H = aIf (fun p st => aGo cl none cd_89 0 p ls st H) .eq 32 24 st) ∧
  (∀ ls st H, aGo cl none cd_89 0 24 ls st H = aRLoad (fun st => aGo cl none cd_89 0 25 ls st H) ls 0 st) ∧
  (∀ ls st H, aGo cl none cd_89 0 25 ls st H = aGo cl none cd_89 0 28 ls (.int (-1000000002) :: st) H) ∧
  (∀ ls st H, aGo cl none cd_89 0 28 ls st H = aCallV (fun st H => aGo cl none cd_89 0 31 ls st H) cl 105 1 7 H st) ∧
  (∀ ls st H, aGo cl none cd_89 0 31 ls st H = aIret 0 st H) ∧
  (∀ ls st H, aGo cl none cd_89 0 32 ls st H = aGo cl none cd_89 0 33 ls (.int 0 :: st) H) ∧
  (∀ ls st H, aGo cl none cd_89 0 33 ls st H = aIStore (fun ls st => aGo cl none cd_89 0 34 ls st H) ls 3 st) ∧
  (∀ ls st H, aGo cl none cd_89 0 34 ls st H = aGo cl none cd_89 0 35 ls (.int 0 :: st) H) ∧
  (∀ ls st H, aGo cl none cd_89 0 35 ls st H = aIStore (fun ls st => aGo cl none cd_89 0 37 ls st H) ls 4 st) ∧
  (∀ ls st H, aGo cl none cd_89 0 39 ls st H = aRLoad (fun st => aGo cl none cd_89 0 40 ls st H) ls 0 st) ∧
  (∀ ls st H, aGo cl none cd_89 0 40 ls st H = aGet (fun st => aGo cl none cd_89 0 43 ls st H) 7 0 H st) ∧
  (∀ ls st H, aGo cl none cd_89 0 43 ls st H = aGet (fun st => aGo cl none cd_89 0 46 ls st H) 0 6 H st) ∧
  (∀ ls st H, aGo cl none cd_89 0 46 ls st H = aIc (fun p st => aGo cl none cd_89 0 p ls st H) .ge 72 49 st) ∧
  (∀ ls st H, aGo cl none cd_89 0 49 ls st H = aRLoad (fun st => aGo cl none cd_89 0 50 ls st H) ls 0 st) ∧
  (∀ ls st H, aGo cl none cd_89 0 50 ls st H = aILoad (fun st => aGo cl none cd_89 0 52 ls st H) ls 4 st) ∧
  (∀ ls st H, aGo cl none cd_89 0 52 ls st H = aRLoad (fun st => aGo cl none cd_89 0 53 ls st H) ls 2 st) ∧
  (∀ ls st H, aGo cl none cd_89 0 53 ls st H = aCallV (fun st H => aGo cl none cd_89 0 56 ls st H) cl 114 2 7 H st) ∧
  (∀ ls st H, aGo cl none cd_89 0 56 ls st H = aIf (fun p st => aGo cl none cd_89 0 p ls st H) .eq 66 59 st) ∧
  (∀ ls st H, aGo cl none cd_89 0 59 ls st H = aILoad (fun st => aGo cl none cd_89 0 60 ls st H) ls 3 st) ∧
  (∀ ls st H, aGo cl none cd_89 0 60 ls st H = aGo cl none cd_89 0 61 ls (.int 1 :: st) H) ∧
  (∀ ls st H, aGo cl none cd_89 0 61 ls st H = aILoad (fun st => aGo cl none cd_89 0 63 ls st H) ls 4 st) ∧
  (∀ ls st H, aGo cl none cd_89 0 63 ls st H = aBin (fun st => aGo cl none cd_89 0 64 ls st H) (fun x y => x <<< (y &&& 31)) st) ∧
  (∀ ls st H, aGo cl none cd_89 0 64 ls st H = aBin (fun st => aGo cl none cd_89 0 65 ls st H) (fun x y => x ||| y) st) ∧
  (∀ ls st H, aGo cl none cd_89 0 65 ls st H = aIStore (fun ls st => aGo cl none cd_89 0 66 ls st H) ls 3 st) ∧
  (∀ ls st H, aGo cl none cd_89 0 66 ls st H = aInc (fun ls => aGo cl none cd_89 0 69 ls st H) ls 4 1) ∧
  (∀ ls st H, aGo cl none cd_89 0 69 ls st H = aGo cl none cd_89 0 37 ls st H) ∧
  (∀ ls st H, aGo cl none cd_89 0 72 ls st H = aILoad (fun st => aGo cl none cd_89 0 73 ls st H) ls 3 st) ∧
  (∀ ls st H, aGo cl none cd_89 0 73 ls st H = aIret 0 st H) :=
  ⟨fun _ _ _ => (aGo_s rfl).trans rfl, fun _ _ _ => (aGo_s rfl).trans rfl, fun _ _ _ => (aGo_s rfl).trans rfl, fun _ _ _ => (aGo_s rfl).trans rfl, fun _ _ _ => (aGo_s rfl).trans rfl, fun _ _ _ => (aGo_s rfl).trans rfl, fun _ _ _ => (aGo_s rfl).trans rfl, fun _ _ _ => (aGo_s rfl).trans rfl, fun _ _ _ => (aGo_s rfl).trans rfl, fun _ _ _ => (aGo_s rfl).trans rfl, fun _ _ _ => (aGo_s rfl).trans rfl, fun _ _ _ => (aGo_s rfl).trans rfl, fun _ _ _ => (aGo_s rfl).trans rfl, fun _ _ _ => (aGo_s rfl).trans rfl, fun _ _ _ => (aGo_s rfl).trans rfl, fun _ _ _ => (aGo_s rfl).trans rfl, fun _ _ _ => (aGo_s rfl).trans rfl, fun _ _ _ => (aGo_s rfl).trans rfl, fun _ _ _ => (aGo_s rfl).trans rfl, fun _ _ _ => (aGo_s rfl).trans rfl, fun _ _ _ => (aGo_s rfl).trans rfl, fun _ _ _ => (aGo_s rfl).trans rfl, fun _ _ _ => (aGo_s rfl).trans rfl, fun _ _ _ => (aGo_s rfl).trans rfl, fun _ _ _ => (aGo_s rfl).trans rfl, fun _ _ _ => (aGo_s rfl).trans rfl, fun _ _ _ => (aGo_s rfl).trans rfl, fun _ _ _ => (aGo_s rfl).trans rfl, fun _ _ _ => (aGo_s rfl).trans rfl, fun _ _ _ => (aGo_s rfl).trans rfl, fun _ _ _ => (aGo_s rfl).trans rfl, fun _ _ _ => (aGo_s rfl).trans rfl, fun _ _ _ => (aGo_s rfl).trans rfl, fun _ _ _ => (aGo_s rfl).trans rfl, fun _ _ _ => (aGo_s rfl).trans rfl, fun _ _ _ => (aGo_s rfl).trans rfl, fun _ _ _ => (aGo_s rfl).trans rfl, fun _ _ _ => (aGo_s rfl).trans rfl, fun _ _ _ => (aGo_s rfl).trans rfl, fun _ _ _ => (aGo_s rfl).trans rfl⟩
theorem s_89_37 {cl : Nat → List Value → aH → aRs} : ∀ ls st H, aGo cl none cd_89 0 37 ls st H = aILoad (fun st => aGo cl none cd_89 0 39 ls st H) ls 4 st := fun _ _ _ => (aGo_s rfl).trans rfl
theorem e_89 {d : Nat} {x0 : Nat} {x1 : Int32} {H : aH} : aCall aMt (d + 1) 89 [.ref x0, .int x1] H = aGo (aCall aMt d) none cd_89 0 0 [some (.ref x0), some (.int x1), none, none, none] [] H := (c_0 rfl ⟨rfl, Nat.le_of_ble_eq_true rfl, Nat.le_of_ble_eq_true rfl⟩).trans rfl
theorem s_90 {cl : Nat → List Value → aH → aRs} : (∀ ls st H, aGo cl none cd_90 0 0 ls st H = aILoad (fun st => aGo cl none cd_90 0 1 ls st H) ls 1 st) ∧
  (∀ ls st H, aGo cl none cd_90 0 1 ls st H = aGo cl none cd_90 0 2 ls (.int 0 :: st) H) ∧
  (∀ ls st H, aGo cl none cd_90 0 2 ls st H = aGo cl none cd_90 0 4 ls (.int 60 :: st) H) ∧
  (∀ ls st H, aGo cl none cd_90 0 4 ls st H = aCallI (fun st H => aGo cl none cd_90 0 7 ls st H) cl 106 3 H st) ∧
  (∀ ls st H, aGo cl none cd_90 0 7 ls st H = aIf (fun p st => aGo cl none cd_90 0 p ls st H) .eq 19 10 st) ∧
  (∀ ls st H, aGo cl none cd_90 0 10 ls st H = aILoad (fun st => aGo cl none cd_90 0 11 ls st H) ls 2 st) ∧
  (∀ ls st H, aGo cl none cd_90 0 11 ls st H = aGo cl none cd_90 0 12 ls (.int 0 :: st) H) ∧
  (∀ ls st H, aGo cl none cd_90 0 12 ls st H = aGo cl none cd_90 0 13 ls (.int 1 :: st) H) ∧
  (∀ ls st H, aGo cl none cd_90 0 13 ls st H = aCallI (fun st H => aGo cl none cd_90 0 16 ls st H) cl 106 3 H st) ∧
  (∀ ls st H, aGo cl none cd_90 0 16 ls st H = aIf (fun p st => aGo cl none cd_90 0 p ls st H) .ne 26 19 st) ∧
  (∀ ls st H, aGo cl none cd_90 0 19 ls st H = aRLoad (fun st => aGo cl none cd_90 0 20 ls st H) ls 0 st) ∧
  (∀ ls st H, aGo cl none cd_90 0 20 ls st H = aGo cl none cd_90 0 22 ls (.int (-1000000001) :: st) H) ∧
  (∀ ls st H, aGo cl none cd_90 0 22 ls st H = aCallV (fun st H => aGo cl none cd_90 0 25 ls st H) cl 105 1 7 H st) ∧
  (∀ ls st H, aGo cl none cd_90 0 25 ls st H = aIret 0 st H) ∧
  (∀ ls st H, aGo cl none cd_90 0 26 ls st H = aRLoad (fun st => aGo cl none cd_90 0 27 ls st H) ls 0 st) ∧
  (∀ ls st H, aGo cl none cd_90 0 27 ls st H = aGet (fun st => aGo cl none cd_90 0 30 ls st H) 7 2 H st) ∧
  (∀ ls st H, aGo cl none cd_90 0 30 ls st H = aRLoad (fun st => aGo cl none cd_90 0 31 ls st H) ls 0 st) ∧
  (∀ ls st H, aGo cl none cd_90 0 31 ls st H = aGet (fun st => aGo cl none cd_90 0 34 ls st H) 7 0 H st) ∧
  (∀ ls st H, aGo cl none cd_90 0 34 ls st H = aCallV (fun st H => aGo cl none cd_90 0 37 ls st H) cl 1 1 0 H st) ∧
  (∀ ls st H, aGo cl none cd_90 0 37 ls st H = aGo cl none cd_90 0 38 ls (.int 0 :: st) H) ∧
  (∀ ls st H, aGo cl none cd_90 0 38 ls st H = aIStore (fun ls st => aGo cl none cd_90 0 39 ls st H) ls 3 st) ∧
  (∀ ls st H, aGo cl none cd_90 0 40 ls st H = aILoad (fun st => aGo cl none cd_90 0 41 ls st H) ls 1 st) ∧
  (∀ ls st H, aGo cl none cd_90 0 41 ls st H = aIc (fun p st => aGo cl none cd_90 0 p ls st H) .ge 58 44 st) ∧
  (∀ ls st H, aGo cl none cd_90 0 44 ls st H = aRLoad (fun st => aGo cl none cd_90 0 45 ls st H) ls 0 st) ∧
  (∀ ls st H, aGo cl none cd_90 0 45 ls st H = aGet (fun st => aGo cl none cd_90 0 48 ls st H) 7 2 H st) ∧
  (∀ ls st H, aGo cl none cd_90 0 48 ls st H = aCallV (fun st H => aGo cl none cd_90 0 51 ls st H) cl 17 0 0 H st) ∧
  (∀ ls st H, aGo cl none cd_90 0 51 ls st H = aPop1 (fun st => aGo cl none cd_90 0 52 ls st H) st) ∧
  (∀ ls st H, aGo cl none cd_90 0 52 ls st H = aInc (fun ls => aGo cl none cd_90 0 55 ls st H) ls 3 1) ∧
  (∀ ls st H, aGo cl none cd_90 0 55 ls st H = aGo cl none cd_90 0 39 ls st H) ∧
  (∀ ls st H, aGo cl none cd_90 0 58 ls st H = aILoad (fun st => aGo cl none cd_90 0 59 ls st H) ls 2 st) ∧
  (∀ ls st H, aGo cl none cd_90 0 59 ls st H = aIf (fun p st => aGo cl none cd_90 0 p ls st H) .ne 72 62 st) ∧
  (∀ ls st H, aGo cl none cd_90 0 62 ls st H = aRLoad (fun st => aGo cl none cd_90 0 63 ls st H) ls 0 st) ∧
  (∀ ls st H, aGo cl none cd_90 0 63 ls st H = aGet (fun st => aGo cl none cd_90 0 66 ls st H) 7 2 H st) ∧
  (∀ ls st H, aGo cl none cd_90 0 66 ls st H = aGet (fun st => aGo cl none cd_90 0 69 ls st H) 0 11 H st) ∧
  (∀ ls st H, aGo cl none cd_90 0 69 ls st H = aGo cl none cd_90 0 79 ls st H) ∧
  (∀ ls st H, aGo cl none cd_90 0 72 ls st H = aRLoad (fun st => aGo cl none cd_90 0 73 ls st H) ls 0 st) ∧
  (∀ ls st H, aGo cl none cd_90 0 73 ls st H = aGet (fun st => aGo cl none cd_90 0 76 ls st H) 7 2 H st) ∧
  (∀ ls st H, aGo cl none cd_90 0 76 ls st H = aCallV (fun st H => aGo cl none cd_90 0 79 ls st H) cl 5 0 0 H st) ∧
  (∀ ls st H, aGo cl none cd_90 0 79 ls st H = aIret 0 st H) :=
  ⟨fun _ _ _ => (aGo_s rfl).trans rfl, fun _ _ _ => (aGo_s rfl).trans rfl, fun _ _ _ => (aGo_s rfl).trans rfl, fun _ _ _ => (aGo_s rfl).trans rfl, fun _ _ _ => (aGo_s rfl).trans rfl, fun _ _ _ => (aGo_s rfl).trans rfl, fun _ _ _ => (aGo_s rfl).trans rfl, fun _ _ _ => (aGo_s rfl).trans rfl, fun _ _ _ => (aGo_s rfl).trans rfl, fun _ _ _ => (aGo_s rfl).trans rfl, fun _ _ _ => (aGo_s rfl).trans rfl, fun _ _ _ => (aGo_s rfl).trans rfl, fun _ _ _ => (aGo_s rfl).trans rfl, fun _ _ _ => (aGo_s rfl).trans rfl, fun _ _ _ => (aGo_s rfl).trans rfl, fun _ _ _ => (aGo_s rfl).trans rfl, fun _ _ _ => (aGo_s rfl).trans rfl, fun _ _ _ => (aGo_s rfl).trans rfl, fun _ _ _ => (aGo_s rfl).trans rfl, fun _ _ _ => (aGo_s rfl).trans rfl, fun _ _ _ => (aGo_s rfl).trans rfl, fun _ _ _ => (aGo_s rfl).trans rfl, fun _ _ _ => (aGo_s rfl).trans rfl, fun _ _ _ => (aGo_s rfl).trans rfl, fun _ _ _ => (aGo_s rfl).trans rfl, fun _ _ _ => (aGo_s rfl).trans rfl, fun _ _ _ => (aGo_s rfl).trans rfl, fun _ _ _ => (aGo_s rfl).trans rfl, fun _ _ _ => (aGo_s rfl).trans rfl, fun _ _ _ => (aGo_s rfl).trans rfl, fun _ _ _ => (aGo_s rfl).trans rfl, fun _ _ _ => (aGo_s rfl).trans rfl, fun _ _ _ => (aGo_s rfl).trans rfl, fun _ _ _ => (aGo_s rfl).trans rfl, fun _ _ _ => (aGo_s rfl).trans rfl, fun _ _ _ => (aGo_s rfl).trans rfl, fun _ _ _ => (aGo_s rfl).trans rfl, fun _ _ _ => (aGo_s rfl).trans rfl, fun _ _ _ => (aGo_s rfl).trans rfl⟩
theorem s_90_39 {cl : Nat → List Value → aH → aRs} : ∀ ls st H, aGo cl none cd_90 0 39 ls st H = aILoad (fun st => aGo cl none cd_90 0 40 ls st H) ls 3 st := fun _ _ _ => (aGo_s rfl).trans rfl
theorem e_90 {d : Nat} {x0 : Nat} {x1 : Int32} {x2 : Int32} {H : aH} : aCall aMt (d + 1) 90 [.ref x0, .int x1, .int x2] H = aGo (aCall aMt d) none cd_90 0 0 [some (.ref x0), some (.int x1), some (.int x2), none] [] H := (c_0 rfl ⟨rfl, Nat.le_of_ble_eq_true rfl, Nat.le_of_ble_eq_true rfl⟩).trans rfl
theorem s_91 {cl : Nat → List Value → aH → aRs} : (∀ ls st H, aGo cl none cd_91 0 0 ls st H = aGo cl none cd_91 0 1 ls (.int (-1) :: st) H) ∧
  (∀ ls st H, aGo cl none cd_91 0 1 ls st H = aIStore (fun ls st => aGo cl none cd_91 0 2 ls st H) ls 1 st) ∧
  (∀ ls st H, aGo cl none cd_91 0 2 ls st H = aGo cl none cd_91 0 3 ls (.int (-1) :: st) H) ∧
  (∀ ls st H, aGo cl none cd_91 0 3 ls st H = aIStore (fun ls st => aGo cl none cd_91 0 4 ls st H) ls 2 st) ∧
  (∀ ls st H, aGo cl none cd_91 0 4 ls st H = aGo cl none cd_91 0 5 ls (.int 0 :: st) H) ∧
  (∀ ls st H, aGo cl none cd_91 0 5 ls st H = aIStore (fun ls st => aGo cl none cd_91 0 6 ls st H) ls 3 st) ∧
  (∀ ls st H, aGo cl none cd_91 0 7 ls st H = aRLoad (fun st => aGo cl none cd_91 0 8 ls st H) ls 0 st) ∧
  (∀ ls st H, aGo cl none cd_91 0 8 ls st H = aGet (fun st => aGo cl none cd_91 0 11 ls st H) 7 0 H st) ∧
  (∀ ls st H, aGo cl none cd_91 0 11 ls st H = aGet (fun st => aGo cl none cd_91 0 14 ls st H) 0 7 H st) ∧
  (∀ ls st H, aGo cl none cd_91 0 14 ls st H = aIc (fun p st => aGo cl none cd_91 0 p ls st H) .ge 69 17 st) ∧
  (∀ ls st H, aGo cl none cd_91 0 17 ls st H = aRLoad (fun st => aGo cl none cd_91 0 18 ls st H) ls 0 st) ∧
  (∀ ls st H, aGo cl none cd_91 0 18 ls st H = aGet (fun st => aGo cl none cd_91 0 21 ls st H) 7 0 H st) ∧
  (∀ ls st H, aGo cl none cd_91 0 21 ls st H = aGet (fun st => aGo cl none cd_91 0 24 ls st H) 0 1 H st) ∧
  (∀ ls st H, aGo cl none cd_91 0 24 ls st H = aILoad (fun st => aGo cl none cd_91 0 25 ls st H) ls 3 st) ∧
  (∀ ls st H, aGo cl none cd_91 0 25 ls st H = aAald (fun st => aGo cl none cd_91 0 26 ls st H) H st) ∧
  (∀ ls st H, aGo cl none cd_91 0 26 ls st H = aGet (fun st => aGo cl none cd_91 0 29 ls st H) 5 5 H st) ∧
  (∀ ls st H, aGo cl none cd_91 0 29 ls st H = aIf (fun p st => aGo cl none cd_91 0 p ls st H) .eq 63 32 st) ∧
  (∀ ls st H, aGo cl none cd_91 0 32 ls st H = aRLoad (fun st => aGo cl none cd_91 0 33 ls st H) ls 0 st) ∧
  (∀ ls st H, aGo cl none cd_91 0 33 ls st H = aGet (fun st => aGo cl none cd_91 0 36 ls st H) 7 0 H st) ∧
  (∀ ls st H, aGo cl none cd_91 0 36 ls st H = aGet (fun st => aGo cl none cd_91 0 39 ls st H) 0 1 H st) ∧
  (∀ ls st H, aGo cl none cd_91 0 39 ls st H = aILoad (fun st => aGo cl none cd_91 0 40 ls st H) ls 3 st) ∧
  (∀ ls st H, aGo cl none cd_91 0 40 ls st H = aAald (fun st => aGo cl none cd_91 0 41 ls st H) H st) ∧
  (∀ ls st H, aGo cl none cd_91 0 41 ls st H = aGet (fun st => aGo cl none cd_91 0 44 ls st H) 5 3 H st) ∧
  (∀ ls st H, aGo cl none cd_91 0 44 ls st H = aILoad (fun st => aGo cl none cd_91 0 45 ls st H) ls 2 st) ∧
  (∀ ls st H, aGo cl none cd_91 0 45 ls st H = aIc (fun p st => aGo cl none cd_91 0 p ls st H) .le 63 48 st) ∧
  (∀ ls st H, aGo cl none cd_91 0 48 ls st H = aRLoad (fun st => aGo cl none cd_91 0 49 ls st H) ls 0 st) ∧
  (∀ ls st H, aGo cl none cd_91 0 49 ls st H = aGet (fun st => aGo cl none cd_91 0 52 ls st H) 7 0 H st) ∧
  (∀ ls st H, aGo cl none cd_91 0 52 ls st H = aGet (fun st => aGo cl none cd_91 0 55 ls st H) 0 1 H st) ∧
  (∀ ls st H, aGo cl none cd_91 0 55 ls st H = aILoad (fun st => aGo cl none cd_91 0 56 ls st H) ls 3 st) ∧
  (∀ ls st H, aGo cl none cd_91 0 56 ls st H = aAald (fun st => aGo cl none cd_91 0 57 ls st H) H st) ∧
  (∀ ls st H, aGo cl none cd_91 0 57 ls st H = aGet (fun st => aGo cl none cd_91 0 60 ls st H) 5 3 H st) ∧
  (∀ ls st H, aGo cl none cd_91 0 60 ls st H = aIStore (fun ls st => aGo cl none cd_91 0 61 ls st H) ls 2 st) ∧
  (∀ ls st H, aGo cl none cd_91 0 61 ls st H = aILoad (fun st => aGo cl none cd_91 0 62 ls st H) ls 3 st) ∧
  (∀ ls st H, aGo cl none cd_91 0 62 ls st H = aIStore (fun ls st => aGo cl none cd_91 0 63 ls st H) ls 1 st) ∧
  (∀ ls st H, aGo cl none cd_91 0 63 ls st H = aInc (fun ls => aGo cl none cd_91 0 66 ls st H) ls 3 1) ∧
  (∀ ls st H, aGo cl none cd_91 0 66 ls st H = aGo cl none cd_91 0 6 ls st H) ∧
  (∀ ls st H, aGo cl none cd_91 0 69 ls st H = aILoad (fun st => aGo cl none cd_91 0 70 ls st H) ls 1 st) ∧
  (∀ ls st H, aGo cl none cd_91 0 70 ls st H = aGo cl none cd_91 0 71 ls (.int (-1) :: st) H) ∧
  (∀ ls st H, aGo cl none cd_91 0 71 ls st H = aIc (fun p st => aGo cl none cd_91 0 p ls st H) .ne 84 74 st) ∧
  (∀ ls st H, aGo cl none cd_91 0 74 ls st H = aRLoad (fun st => aGo cl none cd_91 0 75 ls st H) ls 0 st) ∧
  (∀ ls st H, aGo cl none cd_91 0 75 ls st H = aGo cl none cd_91 0 78 ls (.int (-1000000002) :: st) H) ∧
  (∀ ls st H, aGo cl none cd_91 0 78 ls st H = aCallV (fun st H => aGo cl none cd_91 0 81 ls st H) cl 105 1 7 H st) ∧
  (∀ ls st H, aGo cl none cd_91 0 81 ls st H = aGo cl none cd_91 0 85 ls st H) ∧
  (∀ ls st H, aGo cl none cd_91 0 84 ls st H = aILoad (fun st => aGo cl none cd_91 0 85 ls st H) ls 1 st) ∧
  (∀ ls st H, aGo cl none cd_91 0 85 ls st H = aIret 0 st H) :=
  ⟨fun _ _ _ => (aGo_s rfl).trans rfl, fun _ _ _ => (aGo_s rfl).trans rfl, fun _ _ _ => (aGo_s rfl).trans rfl, fun _ _ _ => (aGo_s rfl).trans rfl, fun _ _ _ => (aGo_s rfl).trans rfl, fun _ _ _ => (aGo_s rfl).trans rfl, fun _ _ _ => (aGo_s rfl).trans rfl, fun _ _ _ => (aGo_s rfl).trans rfl, fun _ _ _ => (aGo_s rfl).trans rfl, fun _ _ _ => (aGo_s rfl).trans rfl, fun _ _ _ => (aGo_s rfl).trans rfl, fun _ _ _ => (aGo_s rfl).trans rfl, fun _ _ _ => (aGo_s rfl).trans rfl, fun _ _ _ => (aGo_s rfl).trans rfl, fun _ _ _ => (aGo_s rfl).trans rfl, fun _ _ _ => (aGo_s rfl).trans rfl, fun _ _ _ => (aGo_s rfl).trans rfl, fun _ _ _ => (aGo_s rfl).trans rfl, fun _ _ _ => (aGo_s rfl).trans rfl, fun _ _ _ => (aGo_s rfl).trans rfl, fun _ _ _ => (aGo_s rfl).trans rfl, fun _ _ _ => (aGo_s rfl).trans rfl, fun _ _ _ => (aGo_s rfl).trans rfl, fun _ _ _ => (aGo_s rfl).trans rfl, fun _ _ _ => (aGo_s rfl).trans rfl, fun _ _ _ => (aGo_s rfl).trans rfl, fun _ _ _ => (aGo_s rfl).trans rfl, fun _ _ _ => (aGo_s rfl).trans rfl, fun _ _ _ => (aGo_s rfl).trans rfl, fun _ _ _ => (aGo_s rfl).trans rfl, fun _ _ _ => (aGo_s rfl).trans rfl, fun _ _ _ => (aGo_s rfl).trans rfl, fun _ _ _ => (aGo_s rfl).trans rfl, fun _ _ _ => (aGo_s rfl).trans rfl, fun _ _ _ => (aGo_s rfl).trans rfl, fun _ _ _ => (aGo_s rfl).trans rfl, fun _ _ _ => (aGo_s rfl).trans rfl, fun _ _ _ => (aGo_s rfl).trans rfl, fun _ _ _ => (aGo_s rfl).trans rfl, fun _ _ _ => (aGo_s rfl).trans rfl, fun _ _ _ => (aGo_s rfl).trans rfl, fun _ _ _ => (aGo_s rfl).trans rfl, fun _ _ _ => (aGo_s rfl).trans rfl, fun _ _ _ => (aGo_s rfl).trans rfl, fun _ _ _ => (aGo_s rfl).trans rfl⟩
theorem s_91_6 {cl : Nat → List Value → aH → aRs} : ∀ ls st H, aGo cl none cd_91 0 6 ls st H = aILoad (fun st => aGo cl none cd_91 0 7 ls st H) ls 3 st := fun _ _ _ => (aGo_s rfl).trans rfl
theorem e_91 {d : Nat} {x0 : Nat} {H : aH} : aCall aMt (d + 1) 91 [.ref x0] H = aGo (aCall aMt d) none cd_91 0 0 [some (.ref x0), none, none, none] [] H := (c_0 rfl ⟨rfl, Nat.le_of_ble_eq_true rfl, Nat.le_of_ble_eq_true rfl⟩).trans rfl
