/-! rewriting rows: an instruction a row; loop heads stand alone (by program) -/
theorem s_92 {cl : Nat → List Value → aH → aRs} : (∀ ls st H, aGo cl none cd_92 0 0 ls st H = aRLoad (fun st => aGo cl none cd_92 0 1 ls st H) ls 0 st) ∧
  (∀ ls st H, aGo cl none cd_92 0 1 ls st H = aGet (fun st => aGo cl none cd_92 0 4 ls st H) 7 0 H st) ∧
  (∀ ls st H, aGo cl none cd_92 0 4 ls st H = aILoad (fun st => aGo cl none cd_92 0 5 ls st H) ls 1 st) ∧
  (∀ ls st H, aGo cl none cd_92 0 5 ls st H = aCallV (fun st H => aGo cl none cd_92 0 8 ls st H) cl 2 1 0 H st) ∧
  (∀ ls st H, aGo cl none cd_92 0 8 ls st H = aRStore (fun ls st => aGo cl none cd_92 0 10 ls st H) ls 4 st) ∧
  (∀ ls st H, aGo cl none cd_92 0 10 ls st H = aRLoad (fun st => aGo cl none cd_92 0 12 ls st H) ls 4 st) ∧
  (∀ ls st H, aGo cl none cd_92 0 12 ls st H = aNul (fun p st => aGo cl none cd_92 0 p ls st H) 24 15 st) ∧
  (∀ ls st H, aGo cl none cd_92 0 15 ls st H = aILoad (fun st => aGo cl none cd_92 0 16 ls st H) ls 2 st) ∧
  (∀ ls st H, aGo cl none cd_92 0 16 ls st H = aGo cl none cd_92 0 17 ls (.int 0 :: st) H) ∧
  (∀ ls st H, aGo cl none cd_92 0 17 ls st H = aGo cl none cd_92 0 18 ls (.int 3 :: st) H) ∧
  (∀ ls st H, aGo cl none cd_92 0 18 ls st H = aCallI (fun st H => aGo cl none cd_92 0 21 ls st H) cl 106 3 H st) ∧
  (∀ ls st H, aGo cl none cd_92 0 21 ls st H = aIf (fun p st => aGo cl none cd_92 0 p ls st H) .ne 31 24 st) ∧
  (∀ ls st H, aGo cl none cd_92 0 24 ls st H = aRLoad (fun st => aGo cl none cd_92 0 25 ls st H) ls 0 st) ∧
  (∀ ls st H, aGo cl none cd_92 0 25 ls st H = aGo cl none cd_92 0 27 ls (.int (-1000000001) :: st) H) ∧
  (∀ ls st H, aGo cl none cd_92 0 27 ls st H = aCallV (fun st H => aGo cl none cd_92 0 30 ls st H) cl 105 1 7 H st) ∧
  (∀ ls st H, aGo cl none cd_92 0 30 ls st H = aIret 0 st H) ∧
  (∀ ls st H, aGo cl none cd_92 0 31 ls st H = aRLoad (fun st => aGo cl none cd_92 0 32 ls st H) ls 0 st) ∧
  (∀ ls st H, aGo cl none cd_92 0 32 ls st H = aGet (fun st => aGo cl none cd_92 0 35 ls st H) 7 4 H st) ∧
  (∀ ls st H, aGo cl none cd_92 0 35 ls st H = aRLoad (fun st => aGo cl none cd_92 0 37 ls st H) ls 4 st) ∧
  (∀ ls st H, aGo cl none cd_92 0 37 ls st H = aILoad (fun st => aGo cl none cd_92 0 38 ls st H) ls 2 st) ∧
  (∀ ls st H, aGo cl none cd_92 0 38 ls st H = aILoad (fun st => aGo cl none cd_92 0 39 ls st H) ls 3 st) ∧
  (∀ ls st H, aGo cl none cd_92 0 39 ls st H = aCallV (fun st H => aGo cl none cd_92 0 42 ls st H) cl 58 3 6 H st) ∧
  (∀ ls st H, aGo cl none cd_92 0 42 ls st H = aIf (fun p st => aGo cl none cd_92 0 p ls st H) .eq 55 45 st) ∧
  (∀ ls st H, aGo cl none cd_92 0 45 ls st H = aRLoad (fun st => aGo cl none cd_92 0 46 ls st H) ls 0 st) ∧
  (∀ ls st H, aGo cl none cd_92 0 46 ls st H = aGet (fun st => aGo cl none cd_92 0 49 ls st H) 7 4 H st) ∧
  (∀ ls st H, aGo cl none cd_92 0 49 ls st H = aGet (fun st => aGo cl none cd_92 0 52 ls st H) 6 2 H st) ∧
  (∀ ls st H, aGo cl none cd_92 0 52 ls st H = aGo cl none cd_92 0 62 ls st H) ∧
  (∀ ls st H, aGo cl none cd_92 0 55 ls st H = aRLoad (fun st => aGo cl none cd_92 0 56 ls st H) ls 0 st) ∧
  (∀ ls st H, aGo cl none cd_92 0 56 ls st H = aGo cl none cd_92 0 59 ls (.int (-1000000006) :: st) H) ∧
  (∀ ls st H, aGo cl none cd_92 0 59 ls st H = aCallV (fun st H => aGo cl none cd_92 0 62 ls st H) cl 105 1 7 H st) ∧
  (∀ ls st H, aGo cl none cd_92 0 62 ls st H = aIret 0 st H) :=
  ⟨fun _ _ _ => (aGo_s rfl).trans rfl, fun _ _ _ => (aGo_s rfl).trans rfl, fun _ _ _ => (aGo_s rfl).trans rfl, fun _ _ _ => (aGo_s rfl).trans rfl, fun _ _ _ => (aGo_s rfl).trans rfl, fun _ _ _ => (aGo_s rfl).trans rfl, fun _ _ _ => (aGo_s rfl).trans rfl, fun _ _ _ => (aGo_s rfl).trans rfl, fun _ _ _ => (aGo_s rfl).trans rfl, fun _ _ _ => (aGo_s rfl).trans rfl, fun _ _ _ => (aGo_s rfl).trans rfl, fun _ _ _ => (aGo_s rfl).trans rfl, fun _ _ _ => (aGo_s rfl).trans rfl, fun _ _ _ => (aGo_s rfl).trans rfl, fun _ _ _ => (aGo_s rfl).trans rfl, fun _ _ _ => (aGo_s rfl).trans rfl, fun _ _ _ => (aGo_s rfl).trans rfl, fun _ _ _ => (aGo_s rfl).trans rfl, fun _ _ _ => (aGo_s rfl).trans rfl, fun _ _ _ => (aGo_s rfl).trans rfl, fun _ _ _ => (aGo_s rfl).trans rfl, fun _ _ _ => (aGo_s rfl).trans rfl, fun _ _ _ => (aGo_s rfl).trans rfl, fun _ _ _ => (aGo_s rfl).trans rfl, fun _ _ _ => (aGo_s rfl).trans rfl, fun _ _ _ => (aGo_s rfl).trans rfl, fun _ _ _ => (aGo_s rfl).trans rfl, fun _ _ _ => (aGo_s rfl).trans rfl, fun _ _ _ => (aGo_s rfl).trans rfl, fun _ _ _ => (aGo_s rfl).trans rfl, fun _ _ _ => (aGo_s rfl).trans rfl⟩
theorem e_92 {d : Nat} {x0 : Nat} {x1 : Int32} {x2 : Int32} {x3 : Int32} {H : aH} : aCall aMt (d + 1) 92 [.ref x0, .int x1, .int x2, .int x3] H = aGo (aCall aMt d) none cd_92 0 0 [some (.ref x0), some (.int x1), some (.int x2), some (.int x3), none] [] H := (c_0 rfl ⟨rfl, Nat.le_of_ble_eq_true rfl, Nat.le_of_ble_eq_true rfl⟩).trans rfl
theorem s_93 {cl : Nat → List Value → aH → aRs} : (∀ ls st H, aGo cl none cd_93 0 0 ls st H = aILoad (fun st => aGo cl none cd_93 0 1 ls st H) ls 1 st) ∧
  (∀ ls st H, aGo cl none cd_93 0 1 ls st H = aGo cl none cd_93 0 2 ls (.int 0 :: st) H) ∧
  (∀ ls st H, aGo cl none cd_93 0 2 ls st H = aRLoad (fun st => aGo cl none cd_93 0 3 ls st H) ls 0 st) ∧
  (∀ ls st H, aGo cl none cd_93 0 3 ls st H = aGet (fun st => aGo cl none cd_93 0 6 ls st H) 7 4 H st) ∧
  (∀ ls st H, aGo cl none cd_93 0 6 ls st H = aGet (fun st => aGo cl none cd_93 0 9 ls st H) 6 1 H st) ∧
  (∀ ls st H, aGo cl none cd_93 0 9 ls st H = aGo cl none cd_93 0 10 ls (.int 1 :: st) H) ∧
  (∀ ls st H, aGo cl none cd_93 0 10 ls st H = aBin (fun st => aGo cl none cd_93 0 11 ls st H) (fun x y => x - y) st) ∧
  (∀ ls st H, aGo cl none cd_93 0 11 ls st H = aCallI (fun st H => aGo cl none cd_93 0 14 ls st H) cl 106 3 H st) ∧
  (∀ ls st H, aGo cl none cd_93 0 14 ls st H = aIf (fun p st => aGo cl none cd_93 0 p ls st H) .eq 29 17 st) ∧
  (∀ ls st H, aGo cl none cd_93 0 17 ls st H = aRLoad (fun st => aGo cl none cd_93 0 18 ls st H) ls 0 st) ∧
  (∀ ls st H, aGo cl none cd_93 0 18 ls st H = aGet (fun st => aGo cl none cd_93 0 21 ls st H) 7 4 H st) ∧
  (∀ ls st H, aGo cl none cd_93 0 21 ls st H = aGet (fun st => aGo cl none cd_93 0 24 ls st H) 6 0 H st) ∧
  (∀ ls st H, aGo cl none cd_93 0 24 ls st H = aILoad (fun st => aGo cl none cd_93 0 25 ls st H) ls 1 st) ∧
  (∀ ls st H, aGo cl none cd_93 0 25 ls st H = aIald (fun st => aGo cl none cd_93 0 26 ls st H) none H st) ∧
  (∀ ls st H, aGo cl none cd_93 0 26 ls st H = aGo cl none cd_93 0 36 ls st H) ∧
  (∀ ls st H, aGo cl none cd_93 0 29 ls st H = aRLoad (fun st => aGo cl none cd_93 0 30 ls st H) ls 0 st) ∧
  (∀ ls st H, aGo cl none cd_93 0 30 ls st H = aGo cl none cd_93 0 33 ls (.int (-1000000002) :: st) H) ∧
  (∀ ls st H, aGo cl none cd_93 0 33 ls st H = aCallV (fun st H => aGo cl none cd_93 0 36 ls st H) cl 105 1 7 H st) ∧
  (∀ ls st H, aGo cl none cd_93 0 36 ls st H = aIret 0 st H) :=
  ⟨fun _ _ _ => (aGo_s rfl).trans rfl, fun _ _ _ => (aGo_s rfl).trans rfl, fun _ _ _ => (aGo_s rfl).trans rfl, fun _ _ _ => (aGo_s rfl).trans rfl, fun _ _ _ => (aGo_s rfl).trans rfl, fun _ _ _ => (aGo_s rfl).trans rfl, fun _ _ _ => (aGo_s rfl).trans rfl, fun _ _ _ => (aGo_s rfl).trans rfl, fun _ _ _ => (aGo_s rfl).trans rfl, fun _ _ _ => (aGo_s rfl).trans rfl, fun _ _ _ => (aGo_s rfl).trans rfl, fun _ _ _ => (aGo_s rfl).trans rfl, fun _ _ _ => (aGo_s rfl).trans rfl, fun _ _ _ => (aGo_s rfl).trans rfl, fun _ _ _ => (aGo_s rfl).trans rfl, fun _ _ _ => (aGo_s rfl).trans rfl, fun _ _ _ => (aGo_s rfl).trans rfl, fun _ _ _ => (aGo_s rfl).trans rfl, fun _ _ _ => (aGo_s rfl).trans rfl⟩
theorem e_93 {d : Nat} {x0 : Nat} {x1 : Int32} {H : aH} : aCall aMt (d + 1) 93 [.ref x0, .int x1] H = aGo (aCall aMt d) none cd_93 0 0 [some (.ref x0), some (.int x1)] [] H := (c_0 rfl ⟨rfl, Nat.le_of_ble_eq_true rfl, Nat.le_of_ble_eq_true rfl⟩).trans rfl
theorem s_94 {cl : Nat → List Value → aH → aRs} : (∀ ls st H, aGo cl none cd_94 0 0 ls st H = aRLoad (fun st => aGo cl none cd_94 0 1 ls st H) ls 0 st) ∧
  (∀ ls st H, aGo cl none cd_94 0 1 ls st H = aILoad (fun st => aGo cl none cd_94 0 2 ls st H) ls 1 st) ∧
  (∀ ls st H, aGo cl none cd_94 0 2 ls st H = aCallV (fun st H => aGo cl none cd_94 0 5 ls st H) cl 110 1 7 H st) ∧
  (∀ ls st H, aGo cl none cd_94 0 5 ls st H = aRStore (fun ls st => aGo cl none cd_94 0 7 ls st H) ls 4 st) ∧
  (∀ ls st H, aGo cl none cd_94 0 7 ls st H = aRLoad (fun st => aGo cl none cd_94 0 9 ls st H) ls 4 st) ∧
  (∀ ls st H, aGo cl none cd_94 0 9 ls st H = aNul (fun p st => aGo cl none cd_94 0 p ls st H) 34 12 st) ∧
  (∀ ls st H, aGo cl none cd_94 0 12 ls st H = aILoad (fun st => aGo cl none cd_94 0 13 ls st H) ls 2 st) ∧
  (∀ ls st H, aGo cl none cd_94 0 13 ls st H = aIf (fun p st => aGo cl none cd_94 0 p ls st H) .eq 41 16 st) ∧
  (∀ ls st H, aGo cl none cd_94 0 16 ls st H = aILoad (fun st => aGo cl none cd_94 0 17 ls st H) ls 2 st) ∧
  (∀ ls st H, aGo cl none cd_94 0 17 ls st H = aGo cl none cd_94 0 19 ls (.int 8 :: st) H) ∧
  (∀ ls st H, aGo cl none cd_94 0 19 ls st H = aIc (fun p st => aGo cl none cd_94 0 p ls st H) .eq 41 22 st) ∧
  (∀ ls st H, aGo cl none cd_94 0 22 ls st H = aILoad (fun st => aGo cl none cd_94 0 23 ls st H) ls 2 st) ∧
  (∀ ls st H, aGo cl none cd_94 0 23 ls st H = aGo cl none cd_94 0 25 ls (.int 16 :: st) H) ∧
  (∀ ls st H, aGo cl none cd_94 0 25 ls st H = aIc (fun p st => aGo cl none cd_94 0 p ls st H) .eq 41 28 st) ∧
  (∀ ls st H, aGo cl none cd_94 0 28 ls st H = aILoad (fun st => aGo cl none cd_94 0 29 ls st H) ls 2 st) ∧
  (∀ ls st H, aGo cl none cd_94 0 29 ls st H = aGo cl none cd_94 0 31 ls (.int 32 :: st) H) ∧
  (∀ ls st H, aGo cl none cd_94 0 31 ls st H = aIc (fun p st => aGo cl none cd_94 0 p ls st H) .eq 41 34 st) ∧
  (∀ ls st H, aGo cl none cd_94 0 34 ls st H = aRLoad (fun st => aGo cl none cd_94 0 35 ls st H) ls 0 st) ∧
  (∀ ls st H, aGo cl none cd_94 0 35 ls st H = aGo cl none cd_94 0 37 ls (.int (-1000000001) :: st) H) ∧
  (∀ ls st H, aGo cl none cd_94 0 37 ls st H = aCallV (fun st H => aGo cl none cd_94 0 40 ls st H) cl 105 1 7 H st) ∧
  (∀ ls st H, aGo cl none cd_94 0 40 ls st H = aIret 0 st H) ∧
  (∀ ls st H, aGo cl none cd_94 0 41 ls st H = aILoad (fun st => aGo cl none cd_94 0 42 ls st H) ls 2 st) ∧
  (∀ ls st H, aGo cl none cd_94 0 42 ls st H = aIf (fun p st => aGo cl none cd_94 0 p ls st H) .eq 56 45 st) ∧
  (∀ ls st H, aGo cl none cd_94 0 45 ls st H = aILoad (fun st => aGo cl none cd_94 0 46 ls st H) ls 3 st) ∧
  (∀ ls st H, aGo cl none cd_94 0 46 ls st H = aIf (fun p st => aGo cl none cd_94 0 p ls st H) .ge 56 49 st) ∧
  (∀ ls st H, aGo cl none cd_94 0 49 ls st H = aRLoad (fun st => aGo cl none cd_94 0 50 ls st H) ls 0 st) ∧
  (∀ ls st H, aGo cl none cd_94 0 50 ls st H = aGo cl none cd_94 0 52 ls (.int (-1000000003) :: st) H) ∧
  (∀ ls st H, aGo cl none cd_94 0 52 ls st H = aCallV (fun st H => aGo cl none cd_94 0 55 ls st H) cl 105 1 7 H st) ∧
  (∀ ls st H, aGo cl none cd_94 0 55 ls st H = aIret 0 st H) ∧
  (∀ ls st H, aGo cl none cd_94 0 56 ls st H = aILoad (fun st => aGo cl none cd_94 0 57 ls st H) ls 2 st) ∧
  (∀ ls st H, aGo cl none cd_94 0 57 ls st H = aIf (fun p st => aGo cl none cd_94 0 p ls st H) .eq 73 60 st) ∧
  (∀ ls st H, aGo cl none cd_94 0 60 ls st H = aILoad (fun st => aGo cl none cd_94 0 61 ls st H) ls 3 st) ∧
  (∀ ls st H, aGo cl none cd_94 0 61 ls st H = aGo cl none cd_94 0 63 ls (.int 24 :: st) H) ∧
  (∀ ls st H, aGo cl none cd_94 0 63 ls st H = aIc (fun p st => aGo cl none cd_94 0 p ls st H) .le 73 66 st) ∧
  (∀ ls st H, aGo cl none cd_94 0 66 ls st H = aRLoad (fun st => aGo cl none cd_94 0 67 ls st H) ls 0 st) ∧
  (∀ ls st H, aGo cl none cd_94 0 67 ls st H = aGo cl none cd_94 0 69 ls (.int (-1000000001) :: st) H) ∧
  (∀ ls st H, aGo cl none cd_94 0 69 ls st H = aCallV (fun st H => aGo cl none cd_94 0 72 ls st H) cl 105 1 7 H st) ∧
  (∀ ls st H, aGo cl none cd_94 0 72 ls st H = aIret 0 st H) ∧
  (∀ ls st H, aGo cl none cd_94 0 73 ls st H = aRLoad (fun st => aGo cl none cd_94 0 75 ls st H) ls 4 st) ∧
  (∀ ls st H, aGo cl none cd_94 0 75 ls st H = aILoad (fun st => aGo cl none cd_94 0 76 ls st H) ls 2 st) ∧
  (∀ ls st H, aGo cl none cd_94 0 76 ls st H = aILoad (fun st => aGo cl none cd_94 0 77 ls st H) ls 2 st) ∧
  (∀ ls st H, aGo cl none cd_94 0 77 ls st H = aIf (fun p st => aGo cl none cd_94 0 p ls st H) .ne 84 80 st) ∧
  (∀ ls st H, aGo cl none cd_94 0 80 ls st H = aGo cl none cd_94 0 81 ls (.int 0 :: st) H) ∧
  (∀ ls st H, aGo cl none cd_94 0 81 ls st H = aGo cl none cd_94 0 85 ls st H) ∧
  (∀ ls st H, aGo cl none cd_94 0 84 ls st H = aILoad (fun st => aGo cl none cd_94 0 85 ls st H) ls 3 st) ∧
  (∀ ls st H, aGo cl none cd_94 0 85 ls st H = aCallV (fun st H => aGo cl none cd_94 0 88 ls st H) cl 47 2 4 H st) ∧
  (∀ ls st H, aGo cl none cd_94 0 88 ls st H = aGo cl none cd_94 0 89 ls (.int 1 :: st) H) ∧
  (∀ ls st H, aGo cl none cd_94 0 89 ls st H = aIret 0 st H) :=
  ⟨fun _ _ _ => (aGo_s rfl).trans rfl, fun _ _ _ => (aGo_s rfl).trans rfl, fun _ _ _ => (aGo_s rfl).trans rfl, fun _ _ _ => (aGo_s rfl).trans rfl, fun _ _ _ => (aGo_s rfl).trans rfl, fun _ _ _ => (aGo_s rfl).trans rfl, fun _ _ _ => (aGo_s rfl).trans rfl, fun _ _ _ => (aGo_s rfl).trans rfl, fun _ _ _ => (aGo_s rfl).trans rfl, fun _ _ _ => (aGo_s rfl).trans rfl, fun _ _ _ => (aGo_s rfl).trans rfl, fun _ _ _ => (aGo_s rfl).trans rfl, fun _ _ _ => (aGo_s rfl).trans rfl, fun _ _ _ => (aGo_s rfl).trans rfl, fun _ _ _ => (aGo_s rfl).trans rfl, fun _ _ _ => (aGo_s rfl).trans rfl, fun _ _ _ => (aGo_s rfl).trans rfl, fun _ _ _ => (aGo_s rfl).trans rfl, fun _ _ _ => (aGo_s rfl).trans rfl, fun _ _ _ => (aGo_s rfl).trans rfl, fun _ _ _ => (aGo_s rfl).trans rfl, fun _ _ _ => (aGo_s rfl).trans rfl, fun _ _ _ => (aGo_s rfl).trans rfl, fun _ _ _ => (aGo_s rfl).trans rfl, fun _ _ _ => (aGo_s rfl).trans rfl, fun _ _ _ => (aGo_s rfl).trans rfl, fun _ _ _ => (aGo_s rfl).trans rfl, fun _ _ _ => (aGo_s rfl).trans rfl, fun _ _ _ => (aGo_s rfl).trans rfl, fun _ _ _ => (aGo_s rfl).trans rfl, fun _ _ _ => (aGo_s rfl).trans rfl, fun _ _ _ => (aGo_s rfl).trans rfl, fun _ _ _ => (aGo_s rfl).trans rfl, fun _ _ _ => (aGo_s rfl).trans rfl, fun _ _ _ => (aGo_s rfl).trans rfl, fun _ _ _ => (aGo_s rfl).trans rfl, fun _ _ _ => (aGo_s rfl).trans rfl, fun _ _ _ => (aGo_s rfl).trans rfl, fun _ _ _ => (aGo_s rfl).trans rfl, fun _ _ _ => (aGo_s rfl).trans rfl, fun _ _ _ => (aGo_s rfl).trans rfl, fun _ _ _ => (aGo_s rfl).trans rfl, fun _ _ _ => (aGo_s rfl).trans rfl, fun _ _ _ => (aGo_s rfl).trans rfl, fun _ _ _ => (aGo_s rfl).trans rfl, fun _ _ _ => (aGo_s rfl).trans rfl, fun _ _ _ => (aGo_s rfl).trans rfl, fun _ _ _ => (aGo_s rfl).trans rfl⟩
theorem e_94 {d : Nat} {x0 : Nat} {x1 : Int32} {x2 : Int32} {x3 : Int32} {H : aH} : aCall aMt (d + 1) 94 [.ref x0, .int x1, .int x2, .int x3] H = aGo (aCall aMt d) none cd_94 0 0 [some (.ref x0), some (.int x1), some (.int x2), some (.int x3), none] [] H := (c_0 rfl ⟨rfl, Nat.le_of_ble_eq_true rfl, Nat.le_of_ble_eq_true rfl⟩).trans rfl
theorem s_95 {cl : Nat → List Value → aH → aRs} : (∀ ls st H, aGo cl none cd_95 0 0 ls st H = aRLoad (fun st => aGo cl none cd_95 0 1 ls st H) ls 0 st) ∧
  (∀ ls st H, aGo cl none cd_95 0 1 ls st H = aILoad (fun st => aGo cl none cd_95 0 2 ls st H) ls 1 st) ∧
  (∀ ls st H, aGo cl none cd_95 0 2 ls st H = aCallV (fun st H => aGo cl none cd_95 0 5 ls st H) cl 110 1 7 H st) ∧
  (∀ ls st H, aGo cl none cd_95 0 5 ls st H = aRStore (fun ls st => aGo cl none cd_95 0 7 ls st H) ls 4 st) ∧
  (∀ ls st H, aGo cl none cd_95 0 7 ls st H = aRLoad (fun st => aGo cl none cd_95 0 9 ls st H) ls 4 st) ∧
  (∀ ls st H, aGo cl none cd_95 0 9 ls st H = aNul (fun p st => aGo cl none cd_95 0 p ls st H) 12 19 st) ∧
  (∀ ls st H, aGo cl none cd_95 0 12 ls st H = aRLoad (fun st => aGo cl none cd_95 0 13 ls st H) ls 0 st) ∧
  (∀ ls st H, aGo cl none cd_95 0 13 ls st H = aGo cl none cd_95 0 15 ls (.int (-1000000001) :: st) H) ∧
  (∀ ls st H, aGo cl none cd_95 0 15 ls st H = aCallV (fun st H => aGo cl none cd_95 0 18 ls st H) cl 105 1 7 H st) ∧
  (∀ ls st H, aGo cl none cd_95 0 18 ls st H = aIret 0 st H) ∧
  (∀ ls st H, aGo cl none cd_95 0 19 ls st H = aRLoad (fun st => aGo cl none cd_95 0 21 ls st H) ls 4 st) ∧
  (∀ ls st H, aGo cl none cd_95 0 21 ls st H = aCallV (fun st H => aGo cl none cd_95 0 24 ls st H) cl 46 0 4 H st) ∧
  (∀ ls st H, aGo cl none cd_95 0 24 ls st H = aIf (fun p st => aGo cl none cd_95 0 p ls st H) .eq 35 27 st) ∧
  (∀ ls st H, aGo cl none cd_95 0 27 ls st H = aRLoad (fun st => aGo cl none cd_95 0 28 ls st H) ls 0 st) ∧
  (∀ ls st H, aGo cl none cd_95 0 28 ls st H = aGo cl none cd_95 0 31 ls (.int (-1000000002) :: st) H) ∧
  (∀ ls st H, aGo cl none cd_95 0 31 ls st H = aCallV (fun st H => aGo cl none cd_95 0 34 ls st H) cl 105 1 7 H st) ∧
  (∀ ls st H, aGo cl none cd_95 0 34 ls st H = aIret 0 st H) ∧
  (∀ ls st H, aGo cl none cd_95 0 35 ls st H = aRLoad (fun st => aGo cl none cd_95 0 37 ls st H) ls 4 st) ∧
  (∀ ls st H, aGo cl none cd_95 0 37 ls st H = aILoad (fun st => aGo cl none cd_95 0 38 ls st H) ls 2 st) ∧
  (∀ ls st H, aGo cl none cd_95 0 38 ls st H = aGo cl none cd_95 0 39 ls (.int 1 :: st) H) ∧
  (∀ ls st H, aGo cl none cd_95 0 39 ls st H = aCallV (fun st H => aGo cl none cd_95 0 42 ls st H) cl 48 2 4 H st) ∧
  (∀ ls st H, aGo cl none cd_95 0 42 ls st H = aIf (fun p st => aGo cl none cd_95 0 p ls st H) .ne 52 45 st) ∧
  (∀ ls st H, aGo cl none cd_95 0 45 ls st H = aRLoad (fun st => aGo cl none cd_95 0 46 ls st H) ls 0 st) ∧
  (∀ ls st H, aGo cl none cd_95 0 46 ls st H = aGo cl none cd_95 0 48 ls (.int (-1000000001) :: st) H) ∧
  (∀ ls st H, aGo cl none cd_95 0 48 ls st H = aCallV (fun st H => aGo cl none cd_95 0 51 ls st H) cl 105 1 7 H st) ∧
  (∀ ls st H, aGo cl none cd_95 0 51 ls st H = aIret 0 st H) ∧
  (∀ ls st H, aGo cl none cd_95 0 52 ls st H = aRLoad (fun st => aGo cl none cd_95 0 54 ls st H) ls 4 st) ∧
  (∀ ls st H, aGo cl none cd_95 0 54 ls st H = aILoad (fun st => aGo cl none cd_95 0 55 ls st H) ls 2 st) ∧
  (∀ ls st H, aGo cl none cd_95 0 55 ls st H = aILoad (fun st => aGo cl none cd_95 0 56 ls st H) ls 3 st) ∧
  (∀ ls st H, aGo cl none cd_95 0 56 ls st H = aCallV (fun st H => aGo cl none cd_95 0 59 ls st H) cl 49 2 4 H st) ∧
  (∀ ls st H, aGo cl none cd_95 0 59 ls st H = aGo cl none cd_95 0 60 ls (.int 1 :: st) H) ∧
  (∀ ls st H, aGo cl none cd_95 0 60 ls st H = aIret 0 st H) :=
  ⟨fun _ _ _ => (aGo_s rfl).trans rfl, fun _ _ _ => (aGo_s rfl).trans rfl, fun _ _ _ => (aGo_s rfl).trans rfl, fun _ _ _ => (aGo_s rfl).trans rfl, fun _ _ _ => (aGo_s rfl).trans rfl, fun _ _ _ => (aGo_s rfl).trans rfl, fun _ _ _ => (aGo_s rfl).trans rfl, fun _ _ _ => (aGo_s rfl).trans rfl, fun _ _ _ => (aGo_s rfl).trans rfl, fun _ _ _ => (aGo_s rfl).trans rfl, fun _ _ _ => (aGo_s rfl).trans rfl, fun _ _ _ => (aGo_s rfl).trans rfl, fun _ _ _ => (aGo_s rfl).trans rfl, fun _ _ _ => (aGo_s rfl).trans rfl, fun _ _ _ => (aGo_s rfl).trans rfl, fun _ _ _ => (aGo_s rfl).trans rfl, fun _ _ _ => (aGo_s rfl).trans rfl, fun _ _ _ => (aGo_s rfl).trans rfl, fun _ _ _ => (aGo_s rfl).trans rfl, fun _ _ _ => (aGo_s rfl).trans rfl, fun _ _ _ => (aGo_s rfl).trans rfl, fun _ _ _ => (aGo_s rfl).trans rfl, fun _ _ _ => (aGo_s rfl).trans rfl, fun _ _ _ => (aGo_s rfl).trans rfl, fun _ _ _ => (aGo_s rfl).trans rfl, fun _ _ _ => (aGo_s rfl).trans rfl, fun _ _ _ => (aGo_s rfl).trans rfl, fun _ _ _ => (aGo_s rfl).trans rfl, fun _ _ _ => (aGo_s rfl).trans rfl, fun _ _ _ => (aGo_s rfl).trans rfl, fun _ _ _ => (aGo_s rfl).trans rfl, fun _ _ _ => (aGo_s rfl).trans rfl⟩
theorem e_95 {d : Nat} {x0 : Nat} {x1 : Int32} {x2 : Int32} {x3 : Int32} {H : aH} : aCall aMt (d + 1) 95 [.ref x0, .int x1, .int x2, .int x3] H = aGo (aCall aMt d) none cd_95 0 0 [some (.ref x0), some (.int x1), some (.int x2), some (.int x3), none] [] H := (c_0 rfl ⟨rfl, Nat.le_of_ble_eq_true rfl, Nat.le_of_ble_eq_true rfl⟩).trans rfl
theorem s_96 {cl : Nat → List Value → aH → aRs} : (∀ ls st H, aGo cl none cd_96 0 0 ls st H = aRLoad (fun st => aGo cl none cd_96 0 1 ls st H) ls 0 st) ∧
  (∀ ls st H, aGo cl none cd_96 0 1 ls st H = aILoad (fun st => aGo cl none cd_96 0 2 ls st H) ls 1 st) ∧
  (∀ ls st H, aGo cl none cd_96 0 2 ls st H = aCallV (fun st H => aGo cl none cd_96 0 5 ls st H) cl 110 1 7 H st) ∧
  (∀ ls st H, aGo cl none cd_96 0 5 ls st H = aRStore (fun ls st => aGo cl none cd_96 0 7 ls st H) ls 6 st) ∧
  (∀ ls st H, aGo cl none cd_96 0 7 ls st H = aRLoad (fun st => aGo cl none cd_96 0 8 ls st H) ls 0 st) ∧
  (∀ ls st H, aGo cl none cd_96 0 8 ls st H = aILoad (fun st => aGo cl none cd_96 0 9 ls st H) ls 3 st) ∧
  (∀ ls st H, aGo cl none cd_96 0 9 ls st H = aCallV (fun st H => aGo cl none cd_96 0 12 ls st H) cl 110 1 7 H st) ∧
  (∀ ls st H, aGo cl none cd_96 0 12 ls st H = aRStore (fun ls st => aGo cl none cd_96 0 14 ls st H) ls 7 st) ∧
  (∀ ls st H, aGo cl none cd_96 0 14 ls st H = aRLoad (fun st => aGo cl none cd_96 0 16 ls st H) ls 6 st) ∧
  (∀ ls st H, aGo cl none cd_96 0 16 ls st H = aNul (fun p st => aGo cl none cd_96 0 p ls st H) 24 19 st) ∧
  (∀ ls st H, aGo cl none cd_96 0 19 ls st H = aRLoad (fun st => aGo cl none cd_96 0 21 ls st H) ls 7 st) ∧
  (∀ ls st H, aGo cl none cd_96 0 21 ls st H = aNul (fun p st => aGo cl none cd_96 0 p ls st H) 24 31 st) ∧
  (∀ ls st H, aGo cl none cd_96 0 24 ls st H = aRLoad (fun st => aGo cl none cd_96 0 25 ls st H) ls 0 st) ∧
  (∀ ls st H, aGo cl none cd_96 0 25 ls st H = aGo cl none cd_96 0 27 ls (.int (-1000000001) :: st) H) ∧
  (∀ ls st H, aGo cl none cd_96 0 27 ls st H = aCallV (fun st H => aGo cl none cd_96 0 30 ls st H) cl 105 1 7 H st) ∧
  (∀ ls st H, aGo cl none cd_96 0 30 ls st H = aIret 0 st H) ∧
  (∀ ls st H, aGo cl none cd_96 0 31 ls st H = aRLoad (fun st => aGo cl none cd_96 0 33 ls st H) ls 6 st) ∧
  (∀ ls st H, aGo cl none cd_96 0 33 ls st H = aCallV (fun st H => aGo cl none cd_96 0 36 ls st H) cl 46 0 4 H st) ∧
  (∀ ls st H, aGo cl none cd_96 0 36 ls st H = aIf (fun p st => aGo cl none cd_96 0 p ls st H) .ne 47 39 st) ∧
  (∀ ls st H, aGo cl none cd_96 0 39 ls st H = aRLoad (fun st => aGo cl none cd_96 0 41 ls st H) ls 7 st) ∧
  (∀ ls st H, aGo cl none cd_96 0 41 ls st H = aCallV (fun st H => aGo cl none cd_96 0 44 ls st H) cl 46 0 4 H st) ∧
  (∀ ls st H, aGo cl none cd_96 0 44 ls st H = aIf (fun p st => aGo cl none cd_96 0 p ls st H) .eq 55 47 st) ∧
  (∀ ls st H, aGo cl none cd_96 0 47 ls st H = aRLoad (fun st => aGo cl none cd_96 0 48 ls st H) ls 0 st) ∧
  (∀ ls st H, aGo cl none cd_96 0 48 ls st H = aGo cl none cd_96 0 51 ls (.int (-1000000002) :: st) H) ∧
  (∀ ls st H, aGo cl none cd_96 0 51 ls st H = aCallV (fun st H => aGo cl none cd_96 0 54 ls st H) cl 105 1 7 H st) ∧
  (∀ ls st H, aGo cl none cd_96 0 54 ls st H = aIret 0 st H) ∧
  (∀ ls st H, aGo cl none cd_96 0 55 ls st H = aRLoad (fun st => aGo cl none cd_96 0 57 ls st H) ls 6 st) ∧
  (∀ ls st H, aGo cl none cd_96 0 57 ls st H = aGet (fun st => aGo cl none cd_96 0 60 ls st H) 4 1 H st) ∧
  (∀ ls st H, aGo cl none cd_96 0 60 ls st H = aRLoad (fun st => aGo cl none cd_96 0 62 ls st H) ls 7 st) ∧
  (∀ ls st H, aGo cl none cd_96 0 62 ls st H = aGet (fun st => aGo cl none cd_96 0 65 ls st H) 4 1 H st) ∧
  (∀ ls st H, aGo cl none cd_96 0 65 ls st H = aIc (fun p st => aGo cl none cd_96 0 p ls st H) .eq 75 68 st) ∧
  (∀ ls st H, aGo cl none cd_96 0 68 ls st H = aRLoad (fun st => aGo cl none cd_96 0 69 ls st H) ls 0 st) ∧
  (∀ ls st H, aGo cl none cd_96 0 69 ls st H = aGo cl none cd_96 0 71 ls (.int (-1000000005) :: st) H) ∧
  (∀ ls st H, aGo cl none cd_96 0 71 ls st H = aCallV (fun st H => aGo cl none cd_96 0 74 ls st H) cl 105 1 7 H st) ∧
  (∀ ls st H, aGo cl none cd_96 0 74 ls st H = aIret 0 st H) ∧
  (∀ ls st H, aGo cl none cd_96 0 75 ls st H = aRLoad (fun st => aGo cl none cd_96 0 77 ls st H) ls 6 st) ∧
  (∀ ls st H, aGo cl none cd_96 0 77 ls st H = aILoad (fun st => aGo cl none cd_96 0 78 ls st H) ls 2 st) ∧
  (∀ ls st H, aGo cl none cd_96 0 78 ls st H = aILoad (fun st => aGo cl none cd_96 0 80 ls st H) ls 5 st) ∧
  (∀ ls st H, aGo cl none cd_96 0 80 ls st H = aCallV (fun st H => aGo cl none cd_96 0 83 ls st H) cl 48 2 4 H st) ∧
  (∀ ls st H, aGo cl none cd_96 0 83 ls st H = aIf (fun p st => aGo cl none cd_96 0 p ls st H) .eq 98 86 st) ∧
  (∀ ls st H, aGo cl none cd_96 0 86 ls st H = aRLoad (fun st => aGo cl none cd_96 0 88 ls st H) ls 7 st) ∧
  (∀ ls st H, aGo cl none cd_96 0 88 ls st H = aILoad (fun st => aGo cl none cd_96 0 90 ls st H) ls 4 st) ∧
  (∀ ls st H, aGo cl none cd_96 0 90 ls st H = aILoad (fun st => aGo cl none cd_96 0 92 ls st H) ls 5 st) ∧
  (∀ ls st H, aGo cl none cd_96 0 92 ls st H = aCallV (fun st H => aGo cl none cd_96 0 95 ls st H) cl 48 2 4 H st) ∧
  (∀ ls st H, aGo cl none cd_96 0 95 ls st H = aIf (fun p st => aGo cl none cd_96 0 p ls st H) .ne 105 98 st) ∧
  (∀ ls st H, aGo cl none cd_96 0 98 ls st H = aRLoad (fun st => aGo cl none cd_96 0 99 ls st H) ls 0 st) ∧
  (∀ ls st H, aGo cl none cd_96 0 99 ls st H = aGo cl none cd_96 0 101 ls (.int (-1000000001) :: st) H) ∧
  (∀ ls st H, aGo cl none cd_96 0 101 ls st H = aCallV (fun st H => aGo cl none cd_96 0 104 ls st H) cl 105 1 7 H st) ∧
  (∀ ls st H, aGo cl none cd_96 0 104 ls st H = aIret 0 st H) ∧
  (∀ ls st H, aGo cl none cd_96 0 105 ls st H = aRLoad (fun st => aGo cl none cd_96 0 107 ls st H) ls 6 st) ∧
  (∀ ls st H, aGo cl none cd_96 0 107 ls st H = aGet (fun st => aGo cl none cd_96 0 110 ls st H) 4 0 H st) ∧
  (∀ ls st H, aGo cl none cd_96 0 110 ls st H = aILoad (fun st => aGo cl none cd_96 0 111 ls st H) ls 2 st) ∧
  (∀ ls st H, aGo cl none cd_96 0 111 ls st H = aRLoad (fun st => aGo cl none cd_96 0 113 ls st H) ls 7 st) ∧
  (∀ ls st H, aGo cl none cd_96 0 113 ls st H = aGet (fun st => aGo cl none cd_96 0 116 ls st H) 4 0 H st) ∧
  (∀ ls st H, aGo cl none cd_96 0 116 ls st H = aILoad (fun st => aGo cl none cd_96 0 118 ls st H) ls 4 st) ∧
  (∀ ls st H, aGo cl none cd_96 0 118 ls st H = aILoad (fun st => aGo cl none cd_96 0 120 ls st H) ls 5 st) ∧
  (∀ ls st H, aGo cl none cd_96 0 120 ls st H = aCopy (fun st H => aGo cl none cd_96 0 123 ls st H) H st) ∧
  (∀ ls st H, aGo cl none cd_96 0 123 ls st H = aILoad (fun st => aGo cl none cd_96 0 125 ls st H) ls 5 st) ∧
  (∀ ls st H, aGo cl none cd_96 0 125 ls st H = aIret 0 st H) :=
  ⟨fun _ _ _ => (aGo_s rfl).trans rfl, fun _ _ _ => (aGo_s rfl).trans rfl, fun _ _ _ => (aGo_s rfl).trans rfl, fun _ _ _ => (aGo_s rfl).trans rfl, fun _ _ _ => (aGo_s rfl).trans rfl, fun _ _ _ => (aGo_s rfl).trans rfl, fun _ _ _ => (aGo_s rfl).trans rfl, fun _ _ _ => (aGo_s rfl).trans rfl, fun _ _ _ => (aGo_s rfl).trans rfl, fun _ _ _ => (aGo_s rfl).trans rfl, fun _ _ _ => (aGo_s rfl).trans rfl, fun _ _ _ => (aGo_s rfl).trans rfl, fun _ _ _ => (aGo_s rfl).trans rfl, fun _ _ _ => (aGo_s rfl).trans rfl, fun _ _ _ => (aGo_s rfl).trans rfl, fun _ _ _ => (aGo_s rfl).trans rfl, fun _ _ _ => (aGo_s rfl).trans rfl, fun _ _ _ => (aGo_s rfl).trans rfl, fun _ _ _ => (aGo_s rfl).trans rfl, fun _ _ _ => (aGo_s rfl).trans rfl, fun _ _ _ => (aGo_s rfl).trans rfl, fun _ _ _ => (aGo_s rfl).trans rfl, fun _ _ _ => (aGo_s rfl).trans rfl, fun _ _ _ => (aGo_s rfl).trans rfl, fun _ _ _ => (aGo_s rfl).trans rfl, fun _ _ _ => (aGo_s rfl).trans rfl, fun _ _ _ => (aGo_s rfl).trans rfl, fun _ _ _ => (aGo_s rfl).trans rfl, fun _ _ _ => (aGo_s rfl).trans rfl, fun _ _ _ => (aGo_s rfl).trans rfl, fun _ _ _ => (aGo_s rfl).trans rfl, fun _ _ _ => (aGo_s rfl).trans rfl, fun _ _ _ => (aGo_s rfl).trans rfl, fun _ _ _ => (aGo_s rfl).trans rfl, fun _ _ _ => (aGo_s rfl).trans rfl, fun _ _ _ => (aGo_s rfl).trans rfl, fun _ _ _ => (aGo_s rfl).trans rfl, fun _ _ _ => (aGo_s rfl).trans rfl, fun _ _ _ => (aGo_s rfl).trans rfl, fun _ _ _ => (aGo_s rfl).trans rfl, fun _ _ _ => (aGo_s rfl).trans rfl, fun _ _ _ => (aGo_s rfl).trans rfl, fun _ _ _ => (aGo_s rfl).trans rfl, fun _ _ _ => (aGo_s rfl).trans rfl, fun _ _ _ => (aGo_s rfl).trans rfl, fun _ _ _ => (aGo_s rfl).trans rfl, fun _ _ _ => (aGo_s rfl).trans rfl, fun _ _ _ => (aGo_s rfl).trans rfl, fun _ _ _ => (aGo_s rfl).trans rfl, fun _ _ _ => (aGo_s rfl).trans rfl, fun _ _ _ => (aGo_s rfl).trans rfl, fun _ _ _ => (aGo_s rfl).trans rfl, fun _ _ _ => (aGo_s rfl).trans rfl, fun _ _ _ => (aGo_s rfl).trans rfl, fun _ _ _ => (aGo_s rfl).trans rfl, fun _ _ _ => (aGo_s rfl).trans rfl, fun _ _ _ => (aGo_s rfl).trans rfl, fun _ _ _ => (aGo_s rfl).trans rfl, fun _ _ _ => (aGo_s rfl).trans rfl⟩
theorem e_96 {d : Nat} {x0 : Nat} {x1 : Int32} {x2 : Int32} {x3 : Int32} {x4 : Int32} {x5 : Int32} {H : aH} : aCall aMt (d + 1) 96 [.ref x0, .int x1, .int x2, .int x3, .int x4, .int x5] H = aGo (aCall aMt d) none cd_96 0 0 [some (.ref x0), some (.int x1), some (.int x2), some (.int x3), some (.int x4), some (.int x5), none, none] [] H := (c_0 rfl ⟨rfl, Nat.le_of_ble_eq_true rfl, Nat.le_of_ble_eq_true rfl⟩).trans rfl
theorem s_97 {cl : Nat → List Value → aH → aRs} : (∀ ls st H, aGo cl none cd_97 0 0 ls st H = aRLoad (fun st => aGo cl none cd_97 0 1 ls st H) ls 0 st) ∧
  (∀ ls st H, aGo cl none cd_97 0 1 ls st H = aILoad (fun st => aGo cl none cd_97 0 2 ls st H) ls 1 st) ∧
  (∀ ls st H, aGo cl none cd_97 0 2 ls st H = aCallV (fun st H => aGo cl none cd_97 0 5 ls st H) cl 110 1 7 H st) ∧
  (∀ ls st H, aGo cl none cd_97 0 5 ls st H = aRStore (fun ls st => aGo cl none cd_97 0 6 ls st H) ls 2 st) ∧
  (∀ ls st H, aGo cl none cd_97 0 6 ls st H = aRLoad (fun st => aGo cl none cd_97 0 7 ls st H) ls 2 st) ∧
  (∀ ls st H, aGo cl none cd_97 0 7 ls st H = aNul (fun p st => aGo cl none cd_97 0 p ls st H) 10 17 st) ∧
  (∀ ls st H, aGo cl none cd_97 0 10 ls st H = aRLoad (fun st => aGo cl none cd_97 0 11 ls st H) ls 0 st) ∧
  (∀ ls st H, aGo cl none cd_97 0 11 ls st H = aGo cl none cd_97 0 13 ls (.int (-1000000001) :: st) H) ∧
  (∀ ls st H, aGo cl none cd_97 0 13 ls st H = aCallV (fun st H => aGo cl none cd_97 0 16 ls st H) cl 105 1 7 H st) ∧
  (∀ ls st H, aGo cl none cd_97 0 16 ls st H = aIret 0 st H) ∧
  (∀ ls st H, aGo cl none cd_97 0 17 ls st H = aRLoad (fun st => aGo cl none cd_97 0 18 ls st H) ls 2 st) ∧
  (∀ ls st H, aGo cl none cd_97 0 18 ls st H = aCallV (fun st H => aGo cl none cd_97 0 21 ls st H) cl 46 0 4 H st) ∧
  (∀ ls st H, aGo cl none cd_97 0 21 ls st H = aIf (fun p st => aGo cl none cd_97 0 p ls st H) .eq 32 24 st) ∧
  (∀ ls st H, aGo cl none cd_97 0 24 ls st H = aRLoad (fun st => aGo cl none cd_97 0 25 ls st H) ls 0 st) ∧
  (∀ ls st H, aGo cl none cd_97 0 25 ls st H = aGo cl none cd_97 0 28 ls (.int (-1000000002) :: st) H) ∧
  (∀ ls st H, aGo cl none cd_97 0 28 ls st H = aCallV (fun st H => aGo cl none cd_97 0 31 ls st H) cl 105 1 7 H st) ∧
  (∀ ls st H, aGo cl none cd_97 0 31 ls st H = aIret 0 st H) ∧
  (∀ ls st H, aGo cl none cd_97 0 32 ls st H = aGo cl none cd_97 0 33 ls (.int 0 :: st) H) ∧
  (∀ ls st H, aGo cl none cd_97 0 33 ls st H = aIStore (fun ls st => aGo cl none cd_97 0 34 ls st H) ls 3 st) ∧
  (∀ ls st H, aGo cl none cd_97 0 35 ls st H = aRLoad (fun st => aGo cl none cd_97 0 36 ls st H) ls 2 st) ∧
  (∀ ls st H, aGo cl none cd_97 0 36 ls st H = aGet (fun st => aGo cl none cd_97 0 39 ls st H) 4 2 H st) ∧
  (∀ ls st H, aGo cl none cd_97 0 39 ls st H = aIc (fun p st => aGo cl none cd_97 0 p ls st H) .ge 91 42 st) ∧
  (∀ ls st H, aGo cl none cd_97 0 42 ls st H = aILoad (fun st => aGo cl none cd_97 0 43 ls st H) ls 3 st) ∧
  (∀ ls st H, aGo cl none cd_97 0 43 ls st H = aRLoad (fun st => aGo cl none cd_97 0 44 ls st H) ls 0 st) ∧
  (∀ ls st H, aGo cl none cd_97 0 44 ls st H = aGet (fun st => aGo cl none cd_97 0 47 ls st H) 7 0 H st) ∧
  (∀ ls st H, aGo cl none cd_97 0 47 ls st H = aGet (fun st => aGo cl none cd_97 0 50 ls st H) 0 7 H st) ∧
  (∀ ls st H, aGo cl none cd_97 0 50 ls st H = aIc (fun p st => aGo cl none cd_97 0 p ls st H) .ge 91 53 st) ∧
  (∀ ls st H, aGo cl none cd_97 0 53 ls st H = aRLoad (fun st => aGo cl none cd_97 0 54 ls st H) ls 2 st) ∧
  (∀ ls st H, aGo cl none cd_97 0 54 ls st H = aGet (fun st => aGo cl none cd_97 0 57 ls st H) 4 0 H st) ∧
  (∀ ls st H, aGo cl none cd_97 0 57 ls st H = aILoad (fun st => aGo cl none cd_97 0 58 ls st H) ls 3 st) ∧
  (∀ ls st H, aGo cl none cd_97 0 58 ls st H = aIald (fun st => aGo cl none cd_97 0 59 ls st H) none H st) ∧
  (∀ ls st H, aGo cl none cd_97 0 59 ls st H = aGo cl none cd_97 0 60 ls (.int 0 :: st) H) ∧
  (∀ ls st H, aGo cl none cd_97 0 60 ls st H = aGo cl none cd_97 0 61 ls (.int 2 :: st) H) ∧
  (∀ ls st H, aGo cl none cd_97 0 61 ls st H = aCallI (fun st H => aGo cl none cd_97 0 64 ls st H) cl 106 3 H st) ∧
  (∀ ls st H, aGo cl none cd_97 0 64 ls st H = aIf (fun p st => aGo cl none cd_97 0 p ls st H) .eq 91 67 st) ∧
  (∀ ls st H, aGo cl none cd_97 0 67 ls st H = aRLoad (fun st => aGo cl none cd_97 0 68 ls st H) ls 0 st) ∧
  (∀ ls st H, aGo cl none cd_97 0 68 ls st H = aGet (fun st => aGo cl none cd_97 0 71 ls st H) 7 0 H st) ∧
  (∀ ls st H, aGo cl none cd_97 0 71 ls st H = aGet (fun st => aGo cl none cd_97 0 74 ls st H) 0 1 H st) ∧
  (∀ ls st H, aGo cl none cd_97 0 74 ls st H = aILoad (fun st => aGo cl none cd_97 0 75 ls st H) ls 3 st) ∧
  (∀ ls st H, aGo cl none cd_97 0 75 ls st H = aAald (fun st => aGo cl none cd_97 0 76 ls st H) H st) ∧
  (∀ ls st H, aGo cl none cd_97 0 76 ls st H = aRLoad (fun st => aGo cl none cd_97 0 77 ls st H) ls 2 st) ∧
  (∀ ls st H, aGo cl none cd_97 0 77 ls st H = aGet (fun st => aGo cl none cd_97 0 80 ls st H) 4 0 H st) ∧
  (∀ ls st H, aGo cl none cd_97 0 80 ls st H = aILoad (fun st => aGo cl none cd_97 0 81 ls st H) ls 3 st) ∧
  (∀ ls st H, aGo cl none cd_97 0 81 ls st H = aIald (fun st => aGo cl none cd_97 0 82 ls st H) none H st) ∧
  (∀ ls st H, aGo cl none cd_97 0 82 ls st H = aPut (fun st H => aGo cl none cd_97 0 85 ls st H) 5 1 H st) ∧
  (∀ ls st H, aGo cl none cd_97 0 85 ls st H = aInc (fun ls => aGo cl none cd_97 0 88 ls st H) ls 3 1) ∧
  (∀ ls st H, aGo cl none cd_97 0 88 ls st H = aGo cl none cd_97 0 34 ls st H) ∧
  (∀ ls st H, aGo cl none cd_97 0 91 ls st H = aILoad (fun st => aGo cl none cd_97 0 92 ls st H) ls 3 st) ∧
  (∀ ls st H, aGo cl none cd_97 0 92 ls st H = aIret 0 st H) :=
  ⟨fun _ _ _ => (aGo_s rfl).trans rfl, fun _ _ _ => (aGo_s rfl).trans rfl, fun _ _ _ => (aGo_s rfl).trans rfl, fun _ _ _ => (aGo_s rfl).trans rfl, fun _ _ _ => (aGo_s rfl).trans rfl, fun _ _ _ => (aGo_s rfl).trans rfl, fun _ _ _ => (aGo_s rfl).trans rfl, fun _ _ _ => (aGo_s rfl).trans rfl, fun _ _ _ => (aGo_s rfl).trans rfl, fun _ _ _ => (aGo_s rfl).trans rfl, fun _ _ _ => (aGo_s rfl).trans rfl, fun _ _ _ => (aGo_s rfl).trans rfl, fun _ _ _ => (aGo_s rfl).trans rfl, fun _ _ _ => (aGo_s rfl).trans rfl, fun _ _ _ => (aGo_s rfl).trans rfl, fun _ _ _ => (aGo_s rfl).trans rfl, fun _ _ _ => (aGo_s rfl).trans rfl, fun _ _ _ => (aGo_s rfl).trans rfl, fun _ _ _ => (aGo_s rfl).trans rfl, fun _ _ _ => (aGo_s rfl).trans rfl, fun _ _ _ => (aGo_s rfl).trans rfl, fun _ _ _ => (aGo_s rfl).trans rfl, fun _ _ _ => (aGo_s rfl).trans rfl, fun _ _ _ => (aGo_s rfl).trans rfl, fun _ _ _ => (aGo_s rfl).trans rfl, fun _ _ _ => (aGo_s rfl).trans rfl, fun _ _ _ => (aGo_s rfl).trans rfl, fun _ _ _ => (aGo_s rfl).trans rfl, fun _ _ _ => (aGo_s rfl).trans rfl, fun _ _ _ => (aGo_s rfl).trans rfl, fun _ _ _ => (aGo_s rfl).trans rfl, fun _ _ _ => (aGo_s rfl).trans rfl, fun _ _ _ => (aGo_s rfl).trans rfl, fun _ _ _ => (aGo_s rfl).trans rfl, fun _ _ _ => (aGo_s rfl).trans rfl, fun _ _ _ => (aGo_s rfl).trans rfl, fun _ _ _ => (aGo_s rfl).trans rfl, fun _ _ _ => (aGo_s rfl).trans rfl, fun _ _ _ => (aGo_s rfl).trans rfl, fun _ _ _ => (aGo_s rfl).trans rfl, fun _ _ _ => (aGo_s rfl).trans rfl, fun _ _ _ => (aGo_s rfl).trans rfl, fun _ _ _ => (aGo_s rfl).trans rfl, fun _ _ _ => (aGo_s rfl).trans rfl, fun _ _ _ => (aGo_s rfl).trans rfl, fun _ _ _ => (aGo_s rfl).trans rfl, fun _ _ _ => (aGo_s rfl).trans rfl, fun _ _ _ => (aGo_s rfl).trans rfl, fun _ _ _ => (aGo_s rfl).trans rfl⟩
theorem s_97_34 {cl : Nat → List Value → aH → aRs} : ∀ ls st H, aGo cl none cd_97 0 34 ls st H = aILoad (fun st => aGo cl none cd_97 0 35 ls st H) ls 3 st := fun _ _ _ => (aGo_s rfl).trans rfl
theorem e_97 {d : Nat} {x0 : Nat} {x1 : Int32} {H : aH} : aCall aMt (d + 1) 97 [.ref x0, .int x1] H = aGo (aCall aMt d) none cd_97 0 0 [some (.ref x0), some (.int x1), none, none] [] H := (c_0 rfl ⟨rfl, Nat.le_of_ble_eq_true rfl, Nat.le_of_ble_eq_true rfl⟩).trans rfl
theorem s_98 {cl : Nat → List Value → aH → aRs} : (∀ ls st H, aGo cl none cd_98 0 0 ls st H = aRLoad (fun st => aGo cl none cd_98 0 1 ls st H) ls 0 st) ∧
  (∀ ls st H, aGo cl none cd_98 0 1 ls st H = aILoad (fun st => aGo cl none cd_98 0 2 ls st H) ls 1 st) ∧
  (∀ ls st H, aGo cl none cd_98 0 2 ls st H = aCallV (fun st H => aGo cl none cd_98 0 5 ls st H) cl 110 1 7 H st) ∧
  (∀ ls st H, aGo cl none cd_98 0 5 ls st H = aRStore (fun ls st => aGo cl none cd_98 0 6 ls st H) ls 2 st) ∧
  (∀ ls st H, aGo cl none cd_98 0 6 ls st H = aRLoad (fun st => aGo cl none cd_98 0 7 ls st H) ls 2 st) ∧
  (∀ ls st H, aGo cl none cd_98 0 7 ls st H = aNul (fun p st => aGo cl none cd_98 0 p ls st H) 10 17 st) ∧
  (∀ ls st H, aGo cl none cd_98 0 10 ls st H = aRLoad (fun st => aGo cl none cd_98 0 11 ls st H) ls 0 st) ∧
  (∀ ls st H, aGo cl none cd_98 0 11 ls st H = aGo cl none cd_98 0 13 ls (.int (-1000000001) :: st) H) ∧
  (∀ ls st H, aGo cl none cd_98 0 13 ls st H = aCallV (fun st H => aGo cl none cd_98 0 16 ls st H) cl 105 1 7 H st) ∧
  (∀ ls st H, aGo cl none cd_98 0 16 ls st H = aIret 0 st H) ∧
  (∀ ls st H, aGo cl none cd_98 0 17 ls st H = aRLoad (fun st => aGo cl none cd_98 0 18 ls st H) ls 2 st) ∧
  (∀ ls st H, aGo cl none cd_98 0 18 ls st H = aCallV (fun st H => aGo cl none cd_98 0 21 ls st H) cl 46 0 4 H st) ∧
  (∀ ls st H, aGo cl none cd_98 0 21 ls st H = aIf (fun p st => aGo cl none cd_98 0 p ls st H) .eq 32 24 st) ∧
  (∀ ls st H, aGo cl none cd_98 0 24 ls st H = aRLoad (fun st => aGo cl none cd_98 0 25 ls st H) ls 0 st) ∧
  (∀ ls st H, aGo cl none cd_98 0 25 ls st H = aGo cl none cd_98 0 28 ls (.int (-1000000002) :: st) H) ∧
  (∀ ls st H, aGo cl none cd_98 0 28 ls st H = aCallV (fun st H => aGo cl none cd_98 0 31 ls st H) cl 105 1 7 H st) ∧
  (∀ ls st H, aGo cl none cd_98 0 31 ls st H = aIret 0 st H) ∧
  (∀ ls st H, aGo cl none cd_98 0 32 ls st H = aRLoad (fun st => aGo cl none cd_98 0 33 ls st H) ls 0 st) ∧
  (∀ ls st H, aGo cl none cd_98 0 33 ls st H = aGet (fun st => aGo cl none cd_98 0 36 ls st H) 7 2 H st) ∧
  (∀ ls st H, aGo cl none cd_98 0 36 ls st H = aRLoad (fun st => aGo cl none cd_98 0 37 ls st H) ls 0 st) ∧
  (∀ ls st H, aGo cl none cd_98 0 37 ls st H = aGet (fun st => aGo cl none cd_98 0 40 ls st H) 7 0 H st) ∧
  (∀ ls st H, aGo cl none cd_98 0 40 ls st H = aCallV (fun st H => aGo cl none cd_98 0 43 ls st H) cl 1 1 0 H st) ∧
  (∀ ls st H, aGo cl none cd_98 0 43 ls st H = aGo cl none cd_98 0 44 ls (.int 0 :: st) H) ∧
  (∀ ls st H, aGo cl none cd_98 0 44 ls st H = aIStore (fun ls st => aGo cl none cd_98 0 45 ls st H) ls 3 st) ∧
  (∀ ls st H, aGo cl none cd_98 0 46 ls st H = aRLoad (fun st => aGo cl none cd_98 0 47 ls st H) ls 2 st) ∧
  (∀ ls st H, aGo cl none cd_98 0 47 ls st H = aGet (fun st => aGo cl none cd_98 0 50 ls st H) 4 2 H st) ∧
  (∀ ls st H, aGo cl none cd_98 0 50 ls st H = aIc (fun p st => aGo cl none cd_98 0 p ls st H) .ge 75 53 st) ∧
  (∀ ls st H, aGo cl none cd_98 0 53 ls st H = aRLoad (fun st => aGo cl none cd_98 0 54 ls st H) ls 0 st) ∧
  (∀ ls st H, aGo cl none cd_98 0 54 ls st H = aGet (fun st => aGo cl none cd_98 0 57 ls st H) 7 2 H st) ∧
  (∀ ls st H, aGo cl none cd_98 0 57 ls st H = aCallV (fun st H => aGo cl none cd_98 0 60 ls st H) cl 17 0 0 H st) ∧
  (∀ ls st H, aGo cl none cd_98 0 60 ls st H = aRLoad (fun st => aGo cl none cd_98 0 61 ls st H) ls 2 st) ∧
  (∀ ls st H, aGo cl none cd_98 0 61 ls st H = aGet (fun st => aGo cl none cd_98 0 64 ls st H) 4 0 H st) ∧
  (∀ ls st H, aGo cl none cd_98 0 64 ls st H = aILoad (fun st => aGo cl none cd_98 0 65 ls st H) ls 3 st) ∧
  (∀ ls st H, aGo cl none cd_98 0 65 ls st H = aIald (fun st => aGo cl none cd_98 0 66 ls st H) none H st) ∧
  (∀ ls st H, aGo cl none cd_98 0 66 ls st H = aIc (fun p st => aGo cl none cd_98 0 p ls st H) .ne 75 69 st) ∧
  (∀ ls st H, aGo cl none cd_98 0 69 ls st H = aInc (fun ls => aGo cl none cd_98 0 72 ls st H) ls 3 1) ∧
  (∀ ls st H, aGo cl none cd_98 0 72 ls st H = aGo cl none cd_98 0 45 ls st H) ∧
  (∀ ls st H, aGo cl none cd_98 0 75 ls st H = aILoad (fun st => aGo cl none cd_98 0 76 ls st H) ls 3 st) ∧
  (∀ ls st H, aGo cl none cd_98 0 76 ls st H = aIret 0 st H) :=
  ⟨fun _ _ _ => (aGo_s rfl).trans rfl, fun _ _ _ => (aGo_s rfl).trans rfl, fun _ _ _ => (aGo_s rfl).trans rfl, fun _ _ _ => (aGo_s rfl).trans rfl, fun _ _ _ => (aGo_s rfl).trans rfl, fun _ _ _ => (aGo_s rfl).trans rfl, fun _ _ _ => (aGo_s rfl).trans rfl, fun _ _ _ => (aGo_s rfl).trans rfl, fun _ _ _ => (aGo_s rfl).trans rfl, fun _ _ _ => (aGo_s rfl).trans rfl, fun _ _ _ => (aGo_s rfl).trans rfl, fun _ _ _ => (aGo_s rfl).trans rfl, fun _ _ _ => (aGo_s rfl).trans rfl, fun _ _ _ => (aGo_s rfl).trans rfl, fun _ _ _ => (aGo_s rfl).trans rfl, fun _ _ _ => (aGo_s rfl).trans rfl, fun _ _ _ => (aGo_s rfl).trans rfl, fun _ _ _ => (aGo_s rfl).trans rfl, fun _ _ _ => (aGo_s rfl).trans rfl, fun _ _ _ => (aGo_s rfl).trans rfl, fun _ _ _ => (aGo_s rfl).trans rfl, fun _ _ _ => (aGo_s rfl).trans rfl, fun _ _ _ => (aGo_s rfl).trans rfl, fun _ _ _ => (aGo_s rfl).trans rfl, fun _ _ _ => (aGo_s rfl).trans rfl, fun _ _ _ => (aGo_s rfl).trans rfl, fun _ _ _ => (aGo_s rfl).trans rfl, fun _ _ _ => (aGo_s rfl).trans rfl, fun _ _ _ => (aGo_s rfl).trans rfl, fun _ _ _ => (aGo_s rfl).trans rfl, fun _ _ _ => (aGo_s rfl).trans rfl, fun _ _ _ => (aGo_s rfl).trans rfl, fun _ _ _ => (aGo_s rfl).trans rfl, fun _ _ _ => (aGo_s rfl).trans rfl, fun _ _ _ => (aGo_s rfl).trans rfl, fun _ _ _ => (aGo_s rfl).trans rfl, fun _ _ _ => (aGo_s rfl).trans rfl, fun _ _ _ => (aGo_s rfl).trans rfl, fun _ _ _ => (aGo_s rfl).trans rfl⟩
theorem s_98_45 {cl : Nat → List Value → aH → aRs} : ∀ ls st H, aGo cl none cd_98 0 45 ls st H = aILoad (fun st => aGo cl none cd_98 0 46 ls st H) ls 3 st := fun _ _ _ => (aGo_s rfl).trans rfl
theorem e_98 {d : Nat} {x0 : Nat} {x1 : Int32} {H : aH} : aCall aMt (d + 1) 98 [.ref x0, .int x1] H = aGo (aCall aMt d) none cd_98 0 0 [some (.ref x0), some (.int x1), none, none] [] H := (c_0 rfl ⟨rfl, Nat.le_of_ble_eq_true rfl, Nat.le_of_ble_eq_true rfl⟩).trans rfl
theorem s_99 {cl : Nat → List Value → aH → aRs} : (∀ ls st H, aGo cl none cd_99 0 0 ls st H = aRLoad (fun st => aGo cl none cd_99 0 1 ls st H) ls 0 st) ∧
  (∀ ls st H, aGo cl none cd_99 0 1 ls st H = aGet (fun st => aGo cl none cd_99 0 4 ls st H) 7 1 H st) ∧
  (∀ ls st H, aGo cl none cd_99 0 4 ls st H = aRLoad (fun st => aGo cl none cd_99 0 5 ls st H) ls 0 st) ∧
  (∀ ls st H, aGo cl none cd_99 0 5 ls st H = aGet (fun st => aGo cl none cd_99 0 8 ls st H) 7 0 H st) ∧
  (∀ ls st H, aGo cl none cd_99 0 8 ls st H = aCallV (fun st H => aGo cl none cd_99 0 11 ls st H) cl 1 1 0 H st) ∧
  (∀ ls st H, aGo cl none cd_99 0 11 ls st H = aRLoad (fun st => aGo cl none cd_99 0 12 ls st H) ls 0 st) ∧
  (∀ ls st H, aGo cl none cd_99 0 12 ls st H = aDup (fun st => aGo cl none cd_99 0 13 ls st H) st) ∧
  (∀ ls st H, aGo cl none cd_99 0 13 ls st H = aGet (fun st => aGo cl none cd_99 0 16 ls st H) 7 8 H st) ∧
  (∀ ls st H, aGo cl none cd_99 0 16 ls st H = aGo cl none cd_99 0 17 ls (.int 1 :: st) H) ∧
  (∀ ls st H, aGo cl none cd_99 0 17 ls st H = aBin (fun st => aGo cl none cd_99 0 18 ls st H) (fun x y => x + y) st) ∧
  (∀ ls st H, aGo cl none cd_99 0 18 ls st H = aPut (fun st H => aGo cl none cd_99 0 21 ls st H) 7 8 H st) ∧
  (∀ ls st H, aGo cl none cd_99 0 21 ls st H = aRLoad (fun st => aGo cl none cd_99 0 22 ls st H) ls 0 st) ∧
  (∀ ls st H, aGo cl none cd_99 0 22 ls st H = aGet (fun st => aGo cl none cd_99 0 25 ls st H) 7 8 H st) ∧
  (∀ ls st H, aGo cl none cd_99 0 25 ls st H = aIret 0 st H) :=
  ⟨fun _ _ _ => (aGo_s rfl).trans rfl, fun _ _ _ => (aGo_s rfl).trans rfl, fun _ _ _ => (aGo_s rfl).trans rfl, fun _ _ _ => (aGo_s rfl).trans rfl, fun _ _ _ => (aGo_s rfl).trans rfl, fun _ _ _ => (aGo_s rfl).trans rfl, fun _ _ _ => (aGo_s rfl).trans rfl, fun _ _ _ => (aGo_s rfl).trans rfl, fun _ _ _ => (aGo_s rfl).trans rfl, fun _ _ _ => (aGo_s rfl).trans rfl, fun _ _ _ => (aGo_s rfl).trans rfl, fun _ _ _ => (aGo_s rfl).trans rfl, fun _ _ _ => (aGo_s rfl).trans rfl, fun _ _ _ => (aGo_s rfl).trans rfl⟩
theorem e_99 {d : Nat} {x0 : Nat} {H : aH} : aCall aMt (d + 1) 99 [.ref x0] H = aGo (aCall aMt d) none cd_99 0 0 [some (.ref x0)] [] H := (c_0 rfl ⟨rfl, Nat.le_of_ble_eq_true rfl, Nat.le_of_ble_eq_true rfl⟩).trans rfl
theorem s_100 {cl : Nat → List Value → aH → aRs} : (∀ ls st H, aGo cl none cd_100 0 0 ls st H = aRLoad (fun st => aGo cl none cd_100 0 1 ls st H) ls 0 st) ∧
  (∀ ls st H, aGo cl none cd_100 0 1 ls st H = aGet (fun st => aGo cl none cd_100 0 4 ls st H) 7 8 H st) ∧
  (∀ ls st H, aGo cl none cd_100 0 4 ls st H = aIf (fun p st => aGo cl none cd_100 0 p ls st H) .ne 15 7 st) ∧
  (∀ ls st H, aGo cl none cd_100 0 7 ls st H = aRLoad (fun st => aGo cl none cd_100 0 8 ls st H) ls 0 st) ∧
  (∀ ls st H, aGo cl none cd_100 0 8 ls st H = aGo cl none cd_100 0 11 ls (.int (-1000000002) :: st) H) ∧
  (∀ ls st H, aGo cl none cd_100 0 11 ls st H = aCallV (fun st H => aGo cl none cd_100 0 14 ls st H) cl 105 1 7 H st) ∧
  (∀ ls st H, aGo cl none cd_100 0 14 ls st H = aIret 0 st H) ∧
  (∀ ls st H, aGo cl none cd_100 0 15 ls st H = aRLoad (fun st => aGo cl none cd_100 0 16 ls st H) ls 0 st) ∧
  (∀ ls st H, aGo cl none cd_100 0 16 ls st H = aGet (fun st => aGo cl none cd_100 0 19 ls st H) 7 0 H st) ∧
  (∀ ls st H, aGo cl none cd_100 0 19 ls st H = aRLoad (fun st => aGo cl none cd_100 0 20 ls st H) ls 0 st) ∧
  (∀ ls st H, aGo cl none cd_100 0 20 ls st H = aGet (fun st => aGo cl none cd_100 0 23 ls st H) 7 1 H st) ∧
  (∀ ls st H, aGo cl none cd_100 0 23 ls st H = aCallV (fun st H => aGo cl none cd_100 0 26 ls st H) cl 1 1 0 H st) ∧
  (∀ ls st H, aGo cl none cd_100 0 26 ls st H = aRLoad (fun st => aGo cl none cd_100 0 27 ls st H) ls 0 st) ∧
  (∀ ls st H, aGo cl none cd_100 0 27 ls st H = aGet (fun st => aGo cl none cd_100 0 30 ls st H) 7 0 H st) ∧
  (∀ ls st H, aGo cl none cd_100 0 30 ls st H = aGet (fun st => aGo cl none cd_100 0 33 ls st H) 0 10 H st) ∧
  (∀ ls st H, aGo cl none cd_100 0 33 ls st H = aIret 0 st H) :=
  ⟨fun _ _ _ => (aGo_s rfl).trans rfl, fun _ _ _ => (aGo_s rfl).trans rfl, fun _ _ _ => (aGo_s rfl).trans rfl, fun _ _ _ => (aGo_s rfl).trans rfl, fun _ _ _ => (aGo_s rfl).trans rfl, fun _ _ _ => (aGo_s rfl).trans rfl, fun _ _ _ => (aGo_s rfl).trans rfl, fun _ _ _ => (aGo_s rfl).trans rfl, fun _ _ _ => (aGo_s rfl).trans rfl, fun _ _ _ => (aGo_s rfl).trans rfl, fun _ _ _ => (aGo_s rfl).trans rfl, fun _ _ _ => (aGo_s rfl).trans rfl, fun _ _ _ => (aGo_s rfl).trans rfl, fun _ _ _ => (aGo_s rfl).trans rfl, fun _ _ _ => (aGo_s rfl).trans rfl, fun _ _ _ => (aGo_s rfl).trans rfl⟩
theorem e_100 {d : Nat} {x0 : Nat} {H : aH} : aCall aMt (d + 1) 100 [.ref x0] H = aGo (aCall aMt d) none cd_100 0 0 [some (.ref x0)] [] H := (c_0 rfl ⟨rfl, Nat.le_of_ble_eq_true rfl, Nat.le_of_ble_eq_true rfl⟩).trans rfl
theorem s_101 {cl : Nat → List Value → aH → aRs} : (∀ ls st H, aGo cl none cd_101 0 0 ls st H = aRLoad (fun st => aGo cl none cd_101 0 1 ls st H) ls 0 st) ∧
  (∀ ls st H, aGo cl none cd_101 0 1 ls st H = aGet (fun st => aGo cl none cd_101 0 4 ls st H) 7 0 H st) ∧
  (∀ ls st H, aGo cl none cd_101 0 4 ls st H = aGet (fun st => aGo cl none cd_101 0 7 ls st H) 0 9 H st) ∧
  (∀ ls st H, aGo cl none cd_101 0 7 ls st H = aGo cl none cd_101 0 9 ls (.int 24 :: st) H) ∧
  (∀ ls st H, aGo cl none cd_101 0 9 ls st H = aIc (fun p st => aGo cl none cd_101 0 p ls st H) .lt 19 12 st) ∧
  (∀ ls st H, aGo cl none cd_101 0 12 ls st H = aRLoad (fun st => aGo cl none cd_101 0 13 ls st H) ls 0 st) ∧
  (∀ ls st H, aGo cl none cd_101 0 13 ls st H = aGo cl none cd_101 0 15 ls (.int (-1000000004) :: st) H) ∧
  (∀ ls st H, aGo cl none cd_101 0 15 ls st H = aCallV (fun st H => aGo cl none cd_101 0 18 ls st H) cl 105 1 7 H st) ∧
  (∀ ls st H, aGo cl none cd_101 0 18 ls st H = aIret 0 st H) ∧
  (∀ ls st H, aGo cl none cd_101 0 19 ls st H = aRLoad (fun st => aGo cl none cd_101 0 20 ls st H) ls 0 st) ∧
  (∀ ls st H, aGo cl none cd_101 0 20 ls st H = aGet (fun st => aGo cl none cd_101 0 23 ls st H) 7 0 H st) ∧
  (∀ ls st H, aGo cl none cd_101 0 23 ls st H = aGet (fun st => aGo cl none cd_101 0 26 ls st H) 0 5 H st) ∧
  (∀ ls st H, aGo cl none cd_101 0 26 ls st H = aRLoad (fun st => aGo cl none cd_101 0 27 ls st H) ls 0 st) ∧
  (∀ ls st H, aGo cl none cd_101 0 27 ls st H = aGet (fun st => aGo cl none cd_101 0 30 ls st H) 7 0 H st) ∧
  (∀ ls st H, aGo cl none cd_101 0 30 ls st H = aGet (fun st => aGo cl none cd_101 0 33 ls st H) 0 9 H st) ∧
  (∀ ls st H, aGo cl none cd_101 0 33 ls st H = aILoad (fun st => aGo cl none cd_101 0 34 ls st H) ls 1 st) ∧
  (∀ ls st H, aGo cl none cd_101 0 34 ls st H = aIast (fun st H => aGo cl none cd_101 0 35 ls st H) H st) ∧
  (∀ ls st H, aGo cl none cd_101 0 35 ls st H = aRLoad (fun st => aGo cl none cd_101 0 36 ls st H) ls 0 st) ∧
  (∀ ls st H, aGo cl none cd_101 0 36 ls st H = aGet (fun st => aGo cl none cd_101 0 39 ls st H) 7 0 H st) ∧
  (∀ ls st H, aGo cl none cd_101 0 39 ls st H = aDup (fun st => aGo cl none cd_101 0 40 ls st H) st) ∧
  (∀ ls st H, aGo cl none cd_101 0 40 ls st H = aGet (fun st => aGo cl none cd_101 0 43 ls st H) 0 9 H st) ∧
  (∀ ls st H, aGo cl none cd_101 0 43 ls st H = aGo cl none cd_101 0 44 ls (.int 1 :: st) H) ∧
  (∀ ls st H, aGo cl none cd_101 0 44 ls st H = aBin (fun st => aGo cl none cd_101 0 45 ls st H) (fun x y => x + y) st) ∧
  (∀ ls st H, aGo cl none cd_101 0 45 ls st H = aPut (fun st H => aGo cl none cd_101 0 48 ls st H) 0 9 H st) ∧
  (∀ ls st H, aGo cl none cd_101 0 48 ls st H = aRLoad (fun st => aGo cl none cd_101 0 49 ls st H) ls 0 st) ∧
  (∀ ls st H, aGo cl none cd_101 0 49 ls st H = aGet (fun st => aGo cl none cd_101 0 52 ls st H) 7 0 H st) ∧
  (∀ ls st H, aGo cl none cd_101 0 52 ls st H = aGet (fun st => aGo cl none cd_101 0 55 ls st H) 0 9 H st) ∧
  (∀ ls st H, aGo cl none cd_101 0 55 ls st H = aIret 0 st H) :=
  ⟨fun _ _ _ => (aGo_s rfl).trans rfl, fun _ _ _ => (aGo_s rfl).trans rfl, fun _ _ _ => (aGo_s rfl).trans rfl, fun _ _ _ => (aGo_s rfl).trans rfl, fun _ _ _ => (aGo_s rfl).trans rfl, fun _ _ _ => (aGo_s rfl).trans rfl, fun _ _ _ => (aGo_s rfl).trans rfl, fun _ _ _ => (aGo_s rfl).trans rfl, fun _ _ _ => (aGo_s rfl).trans rfl, fun _ _ _ => (aGo_s rfl).trans rfl, fun _ _ _ => (aGo_s rfl).trans rfl, fun _ _ _ => (aGo_s rfl).trans rfl, fun _ _ _ => (aGo_s rfl).trans rfl, fun _ _ _ => (aGo_s rfl).trans rfl, fun _ _ _ => (aGo_s rfl).trans rfl, fun _ _ _ => (aGo_s rfl).trans rfl, fun _ _ _ => (aGo_s rfl).trans rfl, fun _ _ _ => (aGo_s rfl).trans rfl, fun _ _ _ => (aGo_s rfl).trans rfl, fun _ _ _ => (aGo_s rfl).trans rfl, fun _ _ _ => (aGo_s rfl).trans rfl, fun _ _ _ => (aGo_s rfl).trans rfl, fun _ _ _ => (aGo_s rfl).trans rfl, fun _ _ _ => (aGo_s rfl).trans rfl, fun _ _ _ => (aGo_s rfl).trans rfl, fun _ _ _ => (aGo_s rfl).trans rfl, fun _ _ _ => (aGo_s rfl).trans rfl, fun _ _ _ => (aGo_s rfl).trans rfl⟩
theorem e_101 {d : Nat} {x0 : Nat} {x1 : Int32} {H : aH} : aCall aMt (d + 1) 101 [.ref x0, .int x1] H = aGo (aCall aMt d) none cd_101 0 0 [some (.ref x0), some (.int x1)] [] H := (c_0 rfl ⟨rfl, Nat.le_of_ble_eq_true rfl, Nat.le_of_ble_eq_true rfl⟩).trans rfl
theorem s_102 {cl : Nat → List Value → aH → aRs} : (∀ ls st H, aGo cl none cd_102 0 0 ls st H = aRLoad (fun st => aGo cl none cd_102 0 1 ls st H) ls 0 st) ∧
  (∀ ls st H, aGo cl none cd_102 0 1 ls st H = aGet (fun st => aGo cl none cd_102 0 4 ls st H) 7 0 H st) ∧
  (∀ ls st H, aGo cl none cd_102 0 4 ls st H = aGet (fun st => aGo cl none cd_102 0 7 ls st H) 0 9 H st) ∧
  (∀ ls st H, aGo cl none cd_102 0 7 ls st H = aIStore (fun ls st => aGo cl none cd_102 0 8 ls st H) ls 1 st) ∧
  (∀ ls st H, aGo cl none cd_102 0 8 ls st H = aRLoad (fun st => aGo cl none cd_102 0 9 ls st H) ls 0 st) ∧
  (∀ ls st H, aGo cl none cd_102 0 9 ls st H = aGet (fun st => aGo cl none cd_102 0 12 ls st H) 7 0 H st) ∧
  (∀ ls st H, aGo cl none cd_102 0 12 ls st H = aGo cl none cd_102 0 13 ls (.int 0 :: st) H) ∧
  (∀ ls st H, aGo cl none cd_102 0 13 ls st H = aPut (fun st H => aGo cl none cd_102 0 16 ls st H) 0 9 H st) ∧
  (∀ ls st H, aGo cl none cd_102 0 16 ls st H = aGo cl none cd_102 0 17 ls (.int 0 :: st) H) ∧
  (∀ ls st H, aGo cl none cd_102 0 17 ls st H = aIStore (fun ls st => aGo cl none cd_102 0 18 ls st H) ls 2 st) ∧
  (∀ ls st H, aGo cl none cd_102 0 19 ls st H = aILoad (fun st => aGo cl none cd_102 0 20 ls st H) ls 1 st) ∧
  (∀ ls st H, aGo cl none cd_102 0 20 ls st H = aIc (fun p st => aGo cl none cd_102 0 p ls st H) .ge 62 23 st) ∧
  (∀ ls st H, aGo cl none cd_102 0 23 ls st H = aRLoad (fun st => aGo cl none cd_102 0 24 ls st H) ls 0 st) ∧
  (∀ ls st H, aGo cl none cd_102 0 24 ls st H = aGet (fun st => aGo cl none cd_102 0 27 ls st H) 7 0 H st) ∧
  (∀ ls st H, aGo cl none cd_102 0 27 ls st H = aILoad (fun st => aGo cl none cd_102 0 28 ls st H) ls 2 st) ∧
  (∀ ls st H, aGo cl none cd_102 0 28 ls st H = aCallV (fun st H => aGo cl none cd_102 0 31 ls st H) cl 2 1 0 H st) ∧
  (∀ ls st H, aGo cl none cd_102 0 31 ls st H = aRStore (fun ls st => aGo cl none cd_102 0 32 ls st H) ls 3 st) ∧
  (∀ ls st H, aGo cl none cd_102 0 32 ls st H = aRLoad (fun st => aGo cl none cd_102 0 33 ls st H) ls 3 st) ∧
  (∀ ls st H, aGo cl none cd_102 0 33 ls st H = aNul (fun p st => aGo cl none cd_102 0 p ls st H) 52 36 st) ∧
  (∀ ls st H, aGo cl none cd_102 0 36 ls st H = aRLoad (fun st => aGo cl none cd_102 0 37 ls st H) ls 3 st) ∧
  (∀ ls st H, aGo cl none cd_102 0 37 ls st H = aGet (fun st => aGo cl none cd_102 0 40 ls st H) 2 3 H st) ∧
  (∀ ls st H, aGo cl none cd_102 0 40 ls st H = aRLoad (fun st => aGo cl none cd_102 0 41 ls st H) ls 0 st) ∧
  (∀ ls st H, aGo cl none cd_102 0 41 ls st H = aGet (fun st => aGo cl none cd_102 0 44 ls st H) 7 0 H st) ∧
  (∀ ls st H, aGo cl none cd_102 0 44 ls st H = aGet (fun st => aGo cl none cd_102 0 47 ls st H) 0 5 H st) ∧
  (∀ ls st H, aGo cl none cd_102 0 47 ls st H = aILoad (fun st => aGo cl none cd_102 0 48 ls st H) ls 2 st) ∧
  (∀ ls st H, aGo cl none cd_102 0 48 ls st H = aIald (fun st => aGo cl none cd_102 0 49 ls st H) none H st) ∧
  (∀ ls st H, aGo cl none cd_102 0 49 ls st H = aIc (fun p st => aGo cl none cd_102 0 p ls st H) .eq 56 52 st) ∧
  (∀ ls st H, aGo cl none cd_102 0 52 ls st H = aGo cl none cd_102 0 53 ls (.int 1 :: st) H) ∧
  (∀ ls st H, aGo cl none cd_102 0 53 ls st H = aILoad (fun st => aGo cl none cd_102 0 54 ls st H) ls 2 st) ∧
  (∀ ls st H, aGo cl none cd_102 0 54 ls st H = aBin (fun st => aGo cl none cd_102 0 55 ls st H) (fun x y => x + y) st) ∧
  (∀ ls st H, aGo cl none cd_102 0 55 ls st H = aIret 0 st H) ∧
  (∀ ls st H, aGo cl none cd_102 0 56 ls st H = aInc (fun ls => aGo cl none cd_102 0 59 ls st H) ls 2 1) ∧
  (∀ ls st H, aGo cl none cd_102 0 59 ls st H = aGo cl none cd_102 0 18 ls st H) ∧
  (∀ ls st H, aGo cl none cd_102 0 62 ls st H = aGo cl none cd_102 0 63 ls (.int 0 :: st) H) ∧
  (∀ ls st H, aGo cl none cd_102 0 63 ls st H = aIret 0 st H) :=
  ⟨fun _ _ _ => (aGo_s rfl).trans rfl, fun _ _ _ => (aGo_s rfl).trans rfl, fun _ _ _ => (aGo_s rfl).trans rfl, fun _ _ _ => (aGo_s rfl).trans rfl, fun _ _ _ => (aGo_s rfl).trans rfl, fun _ _ _ => (aGo_s rfl).trans rfl, fun _ _ _ => (aGo_s rfl).trans rfl, fun _ _ _ => (aGo_s rfl).trans rfl, fun _ _ _ => (aGo_s rfl).trans rfl, fun _ _ _ => (aGo_s rfl).trans rfl, fun _ _ _ => (aGo_s rfl).trans rfl, fun _ _ _ => (aGo_s rfl).trans rfl, fun _ _ _ => (aGo_s rfl).trans rfl, fun _ _ _ => (aGo_s rfl).trans rfl, fun _ _ _ => (aGo_s rfl).trans rfl, fun _ _ _ => (aGo_s rfl).trans rfl, fun _ _ _ => (aGo_s rfl).trans rfl, fun _ _ _ => (aGo_s rfl).trans rfl, fun _ _ _ => (aGo_s rfl).trans rfl, fun _ _ _ => (aGo_s rfl).trans rfl, fun _ _ _ => (aGo_s rfl).trans rfl, fun _ _ _ => (aGo_s rfl).trans rfl, fun _ _ _ => (aGo_s rfl).trans rfl, fun _ _ _ => (aGo_s rfl).trans rfl, fun _ _ _ => (aGo_s rfl).trans rfl, fun _ _ _ => (aGo_s rfl).trans rfl, fun _ _ _ => (aGo_s rfl).trans rfl, fun _ _ _ => (aGo_s rfl).trans rfl, fun _ _ _ => (aGo_s rfl).trans rfl, fun _ _ _ => (aGo_s rfl).trans rfl, fun _ _ _ => (aGo_s rfl).trans rfl, fun _ _ _ => (aGo_s rfl).trans rfl, fun _ _ _ => (aGo_s rfl).trans rfl, fun _ _ _ => (aGo_s rfl).trans rfl, fun _ _ _ => (aGo_s rfl).trans rfl⟩
theorem s_102_18 {cl : Nat → List Value → aH → aRs} : ∀ ls st H, aGo cl none cd_102 0 18 ls st H = aILoad (fun st => aGo cl none cd_102 0 19 ls st H) ls 2 st := fun _ _ _ => (aGo_s rfl).trans rfl
theorem e_102 {d : Nat} {x0 : Nat} {H : aH} : aCall aMt (d + 1) 102 [.ref x0] H = aGo (aCall aMt d) none cd_102 0 0 [some (.ref x0), none, none, none] [] H := (c_0 rfl ⟨rfl, Nat.le_of_ble_eq_true rfl, Nat.le_of_ble_eq_true rfl⟩).trans rfl
theorem s_103 {cl : Nat → List Value → aH → aRs} : (∀ ls st H, aGo cl none cd_103 0 0 ls st H = aILoad (fun st => aGo cl none cd_103 0 1 ls st H) ls 1 st) ∧
  (∀ ls st H, aGo cl none cd_103 0 1 ls st H = aSwS (fun p st => aGo cl none cd_103 0 p ls st H) [(0, 60), (1, 68), (2, 76), (3, 84), (4, 92), (5, 100), (6, 108), (7, 116), (8, 124), (9, 132), (10, 140)] 148 st) ∧
  (∀ ls st H, aGo cl none cd_103 0 60 ls st H = aRLoad (fun st => aGo cl none cd_103 0 61 ls st H) ls 0 st) ∧
  (∀ ls st H, aGo cl none cd_103 0 61 ls st H = aGet (fun st => aGo cl none cd_103 0 64 ls st H) 7 0 H st) ∧
  (∀ ls st H, aGo cl none cd_103 0 64 ls st H = aGet (fun st => aGo cl none cd_103 0 67 ls st H) 0 6 H st) ∧
  (∀ ls st H, aGo cl none cd_103 0 67 ls st H = aIret 0 st H) ∧
  (∀ ls st H, aGo cl none cd_103 0 68 ls st H = aRLoad (fun st => aGo cl none cd_103 0 69 ls st H) ls 0 st) ∧
  (∀ ls st H, aGo cl none cd_103 0 69 ls st H = aGet (fun st => aGo cl none cd_103 0 72 ls st H) 7 0 H st) ∧
  (∀ ls st H, aGo cl none cd_103 0 72 ls st H = aGet (fun st => aGo cl none cd_103 0 75 ls st H) 0 7 H st) ∧
  (∀ ls st H, aGo cl none cd_103 0 75 ls st H = aIret 0 st H) ∧
  (∀ ls st H, aGo cl none cd_103 0 76 ls st H = aRLoad (fun st => aGo cl none cd_103 0 77 ls st H) ls 0 st) ∧
  (∀ ls st H, aGo cl none cd_103 0 77 ls st H = aGet (fun st => aGo cl none cd_103 0 80 ls st H) 7 0 H st) ∧
  (∀ ls st H, aGo cl none cd_103 0 80 ls st H = aCallV (fun st H => aGo cl none cd_103 0 83 ls st H) cl 5 0 0 H st) ∧
  (∀ ls st H, aGo cl none cd_103 0 83 ls st H = aIret 0 st H) ∧
  (∀ ls st H, aGo cl none cd_103 0 84 ls st H = aRLoad (fun st => aGo cl none cd_103 0 85 ls st H) ls 0 st) ∧
  (∀ ls st H, aGo cl none cd_103 0 85 ls st H = aGet (fun st => aGo cl none cd_103 0 88 ls st H) 7 0 H st) ∧
  (∀ ls st H, aGo cl none cd_103 0 88 ls st H = aGet (fun st => aGo cl none cd_103 0 91 ls st H) 0 10 H st) ∧
  (∀ ls st H, aGo cl none cd_103 0 91 ls st H = aIret 0 st H) ∧
  (∀ ls st H, aGo cl none cd_103 0 92 ls st H = aRLoad (fun st => aGo cl none cd_103 0 93 ls st H) ls 0 st) ∧
  (∀ ls st H, aGo cl none cd_103 0 93 ls st H = aGet (fun st => aGo cl none cd_103 0 96 ls st H) 7 0 H st) ∧
  (∀ ls st H, aGo cl none cd_103 0 96 ls st H = aGet (fun st => aGo cl none cd_103 0 99 ls st H) 0 11 H st) ∧
  (∀ ls st H, aGo cl none cd_103 0 99 ls st H = aIret 0 st H) ∧
  (∀ ls st H, aGo cl none cd_103 0 100 ls st H = aRLoad (fun st => aGo cl none cd_103 0 101 ls st H) ls 0 st) ∧
  (∀ ls st H, aGo cl none cd_103 0 101 ls st H = aGet (fun st => aGo cl none cd_103 0 104 ls st H) 7 0 H st) ∧
  (∀ ls st H, aGo cl none cd_103 0 104 ls st H = aGet (fun st => aGo cl none cd_103 0 107 ls st H) 0 12 H st) ∧
  (∀ ls st H, aGo cl none cd_103 0 107 ls st H = aIret 0 st H) ∧
  (∀ ls st H, aGo cl none cd_103 0 108 ls st H = aRLoad (fun st => aGo cl none cd_103 0 109 ls st H) ls 0 st) ∧
  (∀ ls st H, aGo cl none cd_103 0 109 ls st H = aGet (fun st => aGo cl none cd_103 0 112 ls st H) 7 0 H st) ∧
  (∀ ls st H, aGo cl none cd_103 0 112 ls st H = aGet (fun st => aGo cl none cd_103 0 115 ls st H) 0 13 H st) ∧
  (∀ ls st H, aGo cl none cd_103 0 115 ls st H = aIret 0 st H) ∧
  (∀ ls st H, aGo cl none cd_103 0 116 ls st H = aRLoad (fun st => aGo cl none cd_103 0 117 ls st H) ls 0 st) ∧
  (∀ ls st H, aGo cl none cd_103 0 117 ls st H = aGet (fun st => aGo cl none cd_103 0 120 ls st H) 7 0 H st) ∧
  (∀ ls st H, aGo cl none cd_103 0 120 ls st H = aGet (fun st => aGo cl none cd_103 0 123 ls st H) 0 8 H st) ∧
  (∀ ls st H, aGo cl none cd_103 0 123 ls st H = aIret 0 st H) ∧
  (∀ ls st H, aGo cl none cd_103 0 124 ls st H = aRLoad (fun st => aGo cl none cd_103 0 125 ls st H) ls 0 st) ∧
  (∀ ls st H, aGo cl none cd_103 0 125 ls st H = aGet (fun st => aGo cl none cd_103 0 128 ls st H) 7 0 H st) ∧
  (∀ ls st H, aGo cl none cd_103 0 128 ls st H = aGet (fun st => aGo cl none cd_103 0 131 ls st H) 0 9 H st) ∧
  (∀ ls st H, aGo cl none cd_103 0 131 ls st H = aIret 0 st H) ∧
  (∀ ls st H, aGo cl none cd_103 0 132 ls st H = aRLoad (fun st => aGo cl none cd_103 0 133 ls st H) ls 0 st) ∧
  (∀ ls st H, aGo cl none cd_103 0 133 ls st H = aGet (fun st => aGo cl none cd_103 0 136 ls st H) 7 4 H st) ∧
  (∀ ls st H, aGo cl none cd_103 0 136 ls st H = aGet (fun st => aGo cl none cd_103 0 139 ls st H) 6 1 H st) ∧
  (∀ ls st H, aGo cl none cd_103 0 139 ls st H = aIret 0 st H) ∧
  (∀ ls st H, aGo cl none cd_103 0 140 ls st H = aRLoad (fun st => aGo cl none cd_103 0 141 ls st H) ls 0 st) ∧
  (∀ ls st H, aGo cl none cd_103 0 141 ls st H = aGet (fun st => aGo cl none cd_103 0 144 ls st H) 7 0 H st) ∧
  (∀ ls st H, aGo cl none cd_103 0 144 ls st H = aGet (fun st => aGo cl none cd_103 0 147 ls st H) 0 14 H st) ∧
  (∀ ls st H, aGo cl none cd_103 0 147 ls st H = aIret 0 st H) ∧
  (∀ ls st H, aGo cl none cd_103 0 148 ls st H = aRLoad (fun st => aGo cl none cd_103 0 149 ls st H) ls 0 st) ∧
  (∀ ls st H, aGo cl none cd_103 0 149 ls st H = aGo cl none cd_103 0 151 ls (.int (-1000000001) :: st) H) ∧
  (∀ ls st H, aGo cl none cd_103 0 151 ls st H = aCallV (fun st H => aGo cl none cd_103 0 154 ls st H) cl 105 1 7 H st) ∧
  (∀ ls st H, aGo cl none cd_103 0 154 ls st H = aIret 0 st H) :=
  ⟨fun _ _ _ => (aGo_s rfl).trans rfl, fun _ _ _ => (aGo_s rfl).trans rfl, fun _ _ _ => (aGo_s rfl).trans rfl, fun _ _ _ => (aGo_s rfl).trans rfl, fun _ _ _ => (aGo_s rfl).trans rfl, fun _ _ _ => (aGo_s rfl).trans rfl, fun _ _ _ => (aGo_s rfl).trans rfl, fun _ _ _ => (aGo_s rfl).trans rfl, fun _ _ _ => (aGo_s rfl).trans rfl, fun _ _ _ => (aGo_s rfl).trans rfl, fun _ _ _ => (aGo_s rfl).trans rfl, fun _ _ _ => (aGo_s rfl).trans rfl, fun _ _ _ => (aGo_s rfl).trans rfl, fun _ _ _ => (aGo_s rfl).trans rfl, fun _ _ _ => (aGo_s rfl).trans rfl, fun _ _ _ => (aGo_s rfl).trans rfl, fun _ _ _ => (aGo_s rfl).trans rfl, fun _ _ _ => (aGo_s rfl).trans rfl, fun _ _ _ => (aGo_s rfl).trans rfl, fun _ _ _ => (aGo_s rfl).trans rfl, fun _ _ _ => (aGo_s rfl).trans rfl, fun _ _ _ => (aGo_s rfl).trans rfl, fun _ _ _ => (aGo_s rfl).trans rfl, fun _ _ _ => (aGo_s rfl).trans rfl, fun _ _ _ => (aGo_s rfl).trans rfl, fun _ _ _ => (aGo_s rfl).trans rfl, fun _ _ _ => (aGo_s rfl).trans rfl, fun _ _ _ => (aGo_s rfl).trans rfl, fun _ _ _ => (aGo_s rfl).trans rfl, fun _ _ _ => (aGo_s rfl).trans rfl, fun _ _ _ => (aGo_s rfl).trans rfl, fun _ _ _ => (aGo_s rfl).trans rfl, fun _ _ _ => (aGo_s rfl).trans rfl, fun _ _ _ => (aGo_s rfl).trans rfl, fun _ _ _ => (aGo_s rfl).trans rfl, fun _ _ _ => (aGo_s rfl).trans rfl, fun _ _ _ => (aGo_s rfl).trans rfl, fun _ _ _ => (aGo_s rfl).trans rfl, fun _ _ _ => (aGo_s rfl).trans rfl, fun _ _ _ => (aGo_s rfl).trans rfl, fun _ _ _ => (aGo_s rfl).trans rfl, fun _ _ _ => (aGo_s rfl).trans rfl, fun _ _ _ => (aGo_s rfl).trans rfl, fun _ _ _ => (aGo_s rfl).trans rfl, fun _ _ _ => (aGo_s rfl).trans rfl, fun _ _ _ => (aGo_s rfl).trans rfl, fun _ _ _ => (aGo_s rfl).trans rfl, fun _ _ _ => (aGo_s rfl).trans rfl, fun _ _ _ => (aGo_s rfl).trans rfl, fun _ _ _ => (aGo_s rfl).trans rfl⟩
theorem e_103 {d : Nat} {x0 : Nat} {x1 : Int32} {H : aH} : aCall aMt (d + 1) 103 [.ref x0, .int x1] H = aGo (aCall aMt d) none cd_103 0 0 [some (.ref x0), some (.int x1)] [] H := (c_0 rfl ⟨rfl, Nat.le_of_ble_eq_true rfl, Nat.le_of_ble_eq_true rfl⟩).trans rfl
theorem s_104 {cl : Nat → List Value → aH → aRs} : (∀ ls st H, aGo cl none cd_104 0 0 ls st H = aILoad (fun st => aGo cl none cd_104 0 1 ls st H) ls 1 st) ∧
  (∀ ls st H, aGo cl none cd_104 0 1 ls st H = aGo cl none cd_104 0 2 ls (.int 1 :: st) H) ∧
  (∀ ls st H, aGo cl none cd_104 0 2 ls st H = aGo cl none cd_104 0 4 ls (.int 6 :: st) H) ∧
  (∀ ls st H, aGo cl none cd_104 0 4 ls st H = aCallI (fun st H => aGo cl none cd_104 0 7 ls st H) cl 106 3 H st) ∧
  (∀ ls st H, aGo cl none cd_104 0 7 ls st H = aIf (fun p st => aGo cl none cd_104 0 p ls st H) .eq 19 10 st) ∧
  (∀ ls st H, aGo cl none cd_104 0 10 ls st H = aRLoad (fun st => aGo cl none cd_104 0 11 ls st H) ls 0 st) ∧
  (∀ ls st H, aGo cl none cd_104 0 11 ls st H = aGet (fun st => aGo cl none cd_104 0 14 ls st H) 7 6 H st) ∧
  (∀ ls st H, aGo cl none cd_104 0 14 ls st H = aILoad (fun st => aGo cl none cd_104 0 15 ls st H) ls 1 st) ∧
  (∀ ls st H, aGo cl none cd_104 0 15 ls st H = aIald (fun st => aGo cl none cd_104 0 16 ls st H) none H st) ∧
  (∀ ls st H, aGo cl none cd_104 0 16 ls st H = aGo cl none cd_104 0 25 ls st H) ∧
  (∀ ls st H, aGo cl none cd_104 0 19 ls st H = aRLoad (fun st => aGo cl none cd_104 0 20 ls st H) ls 0 st) ∧
  (∀ ls st H, aGo cl none cd_104 0 20 ls st H = aGo cl none cd_104 0 22 ls (.int (-1000000001) :: st) H) ∧
  (∀ ls st H, aGo cl none cd_104 0 22 ls st H = aCallV (fun st H => aGo cl none cd_104 0 25 ls st H) cl 105 1 7 H st) ∧
  (∀ ls st H, aGo cl none cd_104 0 25 ls st H = aIret 0 st H) :=
  ⟨fun _ _ _ => (aGo_s rfl).trans rfl, fun _ _ _ => (aGo_s rfl).trans rfl, fun _ _ _ => (aGo_s rfl).trans rfl, fun _ _ _ => (aGo_s rfl).trans rfl, fun _ _ _ => (aGo_s rfl).trans rfl, fun _ _ _ => (aGo_s rfl).trans rfl, fun _ _ _ => (aGo_s rfl).trans rfl, fun _ _ _ => (aGo_s rfl).trans rfl, fun _ _ _ => (aGo_s rfl).trans rfl, fun _ _ _ => (aGo_s rfl).trans rfl, fun _ _ _ => (aGo_s rfl).trans rfl, fun _ _ _ => (aGo_s rfl).trans rfl, fun _ _ _ => (aGo_s rfl).trans rfl, fun _ _ _ => (aGo_s rfl).trans rfl⟩
theorem e_104 {d : Nat} {x0 : Nat} {x1 : Int32} {H : aH} : aCall aMt (d + 1) 104 [.ref x0, .int x1] H = aGo (aCall aMt d) none cd_104 0 0 [some (.ref x0), some (.int x1)] [] H := (c_0 rfl ⟨rfl, Nat.le_of_ble_eq_true rfl, Nat.le_of_ble_eq_true rfl⟩).trans rfl
theorem s_105 {cl : Nat → List Value → aH → aRs} : (∀ ls st H, aGo cl none cd_105 0 0 ls st H = aGo cl none cd_105 0 3 ls (.int (-1000000000) :: st) H) ∧
  (∀ ls st H, aGo cl none cd_105 0 3 ls st H = aILoad (fun st => aGo cl none cd_105 0 4 ls st H) ls 1 st) ∧
  (∀ ls st H, aGo cl none cd_105 0 4 ls st H = aBin (fun st => aGo cl none cd_105 0 5 ls st H) (fun x y => x - y) st) ∧
  (∀ ls st H, aGo cl none cd_105 0 5 ls st H = aIStore (fun ls st => aGo cl none cd_105 0 6 ls st H) ls 2 st) ∧
  (∀ ls st H, aGo cl none cd_105 0 6 ls st H = aILoad (fun st => aGo cl none cd_105 0 7 ls st H) ls 2 st) ∧
  (∀ ls st H, aGo cl none cd_105 0 7 ls st H = aGo cl none cd_105 0 8 ls (.int 1 :: st) H) ∧
  (∀ ls st H, aGo cl none cd_105 0 8 ls st H = aGo cl none cd_105 0 10 ls (.int 6 :: st) H) ∧
  (∀ ls st H, aGo cl none cd_105 0 10 ls st H = aCallI (fun st H => aGo cl none cd_105 0 13 ls st H) cl 106 3 H st) ∧
  (∀ ls st H, aGo cl none cd_105 0 13 ls st H = aIf (fun p st => aGo cl none cd_105 0 p ls st H) .eq 26 16 st) ∧
  (∀ ls st H, aGo cl none cd_105 0 16 ls st H = aRLoad (fun st => aGo cl none cd_105 0 17 ls st H) ls 0 st) ∧
  (∀ ls st H, aGo cl none cd_105 0 17 ls st H = aGet (fun st => aGo cl none cd_105 0 20 ls st H) 7 6 H st) ∧
  (∀ ls st H, aGo cl none cd_105 0 20 ls st H = aILoad (fun st => aGo cl none cd_105 0 21 ls st H) ls 2 st) ∧
  (∀ ls st H, aGo cl none cd_105 0 21 ls st H = aDup2 (fun st => aGo cl none cd_105 0 22 ls st H) st) ∧
  (∀ ls st H, aGo cl none cd_105 0 22 ls st H = aIald (fun st => aGo cl none cd_105 0 23 ls st H) none H st) ∧
  (∀ ls st H, aGo cl none cd_105 0 23 ls st H = aGo cl none cd_105 0 24 ls (.int 1 :: st) H) ∧
  (∀ ls st H, aGo cl none cd_105 0 24 ls st H = aBin (fun st => aGo cl none cd_105 0 25 ls st H) (fun x y => x + y) st) ∧
  (∀ ls st H, aGo cl none cd_105 0 25 ls st H = aIast (fun st H => aGo cl none cd_105 0 26 ls st H) H st) ∧
  (∀ ls st H, aGo cl none cd_105 0 26 ls st H = aILoad (fun st => aGo cl none cd_105 0 27 ls st H) ls 1 st) ∧
  (∀ ls st H, aGo cl none cd_105 0 27 ls st H = aIret 0 st H) :=
  ⟨fun _ _ _ => (aGo_s rfl).trans rfl, fun _ _ _ => (aGo_s rfl).trans rfl, fun _ _ _ => (aGo_s rfl).trans rfl, fun _ _ _ => (aGo_s rfl).trans rfl, fun _ _ _ => (aGo_s rfl).trans rfl, fun _ _ _ => (aGo_s rfl).trans rfl, fun _ _ _ => (aGo_s rfl).trans rfl, fun _ _ _ => (aGo_s rfl).trans rfl, fun _ _ _ => (aGo_s rfl).trans rfl, fun _ _ _ => (aGo_s rfl).trans rfl, fun _ _ _ => (aGo_s rfl).trans rfl, fun _ _ _ => (aGo_s rfl).trans rfl, fun _ _ _ => (aGo_s rfl).trans rfl, fun _ _ _ => (aGo_s rfl).trans rfl, fun _ _ _ => (aGo_s rfl).trans rfl, fun _ _ _ => (aGo_s rfl).trans rfl, fun _ _ _ => (aGo_s rfl).trans rfl, fun _ _ _ => (aGo_s rfl).trans rfl, fun _ _ _ => (aGo_s rfl).trans rfl⟩
theorem e_105 {d : Nat} {x0 : Nat} {x1 : Int32} {H : aH} : aCall aMt (d + 1) 105 [.ref x0, .int x1] H = aGo (aCall aMt d) none cd_105 0 0 [some (.ref x0), some (.int x1), none] [] H := (c_0 rfl ⟨rfl, Nat.le_of_ble_eq_true rfl, Nat.le_of_ble_eq_true rfl⟩).trans rfl
theorem s_106 {cl : Nat → List Value → aH → aRs} : (∀ ls st H, aGo cl none cd_106 1 0 ls st H = aILoad (fun st => aGo cl none cd_106 1 1 ls st H) ls 0 st) ∧
  (∀ ls st H, aGo cl none cd_106 1 1 ls st H = aILoad (fun st => aGo cl none cd_106 1 2 ls st H) ls 1 st) ∧
  (∀ ls st H, aGo cl none cd_106 1 2 ls st H = aIc (fun p st => aGo cl none cd_106 1 p ls st H) .lt 14 5 st) ∧
  (∀ ls st H, aGo cl none cd_106 1 5 ls st H = aILoad (fun st => aGo cl none cd_106 1 6 ls st H) ls 0 st) ∧
  (∀ ls st H, aGo cl none cd_106 1 6 ls st H = aILoad (fun st => aGo cl none cd_106 1 7 ls st H) ls 2 st) ∧
  (∀ ls st H, aGo cl none cd_106 1 7 ls st H = aIc (fun p st => aGo cl none cd_106 1 p ls st H) .gt 14 10 st) ∧
  (∀ ls st H, aGo cl none cd_106 1 10 ls st H = aGo cl none cd_106 1 11 ls (.int 1 :: st) H) ∧
  (∀ ls st H, aGo cl none cd_106 1 11 ls st H = aGo cl none cd_106 1 15 ls st H) ∧
  (∀ ls st H, aGo cl none cd_106 1 14 ls st H = aGo cl none cd_106 1 15 ls (.int 0 :: st) H) ∧
  (∀ ls st H, aGo cl none cd_106 1 15 ls st H = aIret 1 st H) :=
  ⟨fun _ _ _ => (aGo_s rfl).trans rfl, fun _ _ _ => (aGo_s rfl).trans rfl, fun _ _ _ => (aGo_s rfl).trans rfl, fun _ _ _ => (aGo_s rfl).trans rfl, fun _ _ _ => (aGo_s rfl).trans rfl, fun _ _ _ => (aGo_s rfl).trans rfl, fun _ _ _ => (aGo_s rfl).trans rfl, fun _ _ _ => (aGo_s rfl).trans rfl, fun _ _ _ => (aGo_s rfl).trans rfl, fun _ _ _ => (aGo_s rfl).trans rfl⟩
theorem e_106 {d : Nat} {x0 : Int32} {x1 : Int32} {x2 : Int32} {H : aH} : aCall aMt (d + 1) 106 [.int x0, .int x1, .int x2] H = aGo (aCall aMt d) none cd_106 1 0 [some (.int x0), some (.int x1), some (.int x2)] [] H := (c_0 rfl ⟨rfl, Nat.le_of_ble_eq_true rfl, Nat.le_of_ble_eq_true rfl⟩).trans rfl
theorem s_107 {cl : Nat → List Value → aH → aRs} : (∀ ls st H, aGo cl none cd_107 1 0 ls st H = aILoad (fun st => aGo cl none cd_107 1 1 ls st H) ls 0 st) ∧
  (∀ ls st H, aGo cl none cd_107 1 1 ls st H = aGo cl none cd_107 1 2 ls (.int 0 :: st) H) ∧
  (∀ ls st H, aGo cl none cd_107 1 2 ls st H = aGo cl none cd_107 1 3 ls (.int 1 :: st) H) ∧
  (∀ ls st H, aGo cl none cd_107 1 3 ls st H = aCallI (fun st H => aGo cl none cd_107 1 6 ls st H) cl 106 3 H st) ∧
  (∀ ls st H, aGo cl none cd_107 1 6 ls st H = aIret 1 st H) :=
  ⟨fun _ _ _ => (aGo_s rfl).trans rfl, fun _ _ _ => (aGo_s rfl).trans rfl, fun _ _ _ => (aGo_s rfl).trans rfl, fun _ _ _ => (aGo_s rfl).trans rfl, fun _ _ _ => (aGo_s rfl).trans rfl⟩
theorem e_107 {d : Nat} {x0 : Int32} {H : aH} : aCall aMt (d + 1) 107 [.int x0] H = aGo (aCall aMt d) none cd_107 1 0 [some (.int x0)] [] H := (c_0 rfl ⟨rfl, Nat.le_of_ble_eq_true rfl, Nat.le_of_ble_eq_true rfl⟩).trans rfl
theorem s_108 {cl : Nat → List Value → aH → aRs} : (∀ ls st H, aGo cl none cd_108 1 0 ls st H = aILoad (fun st => aGo cl none cd_108 1 1 ls st H) ls 0 st) ∧
  (∀ ls st H, aGo cl none cd_108 1 1 ls st H = aGo cl none cd_108 1 2 ls (.int 0 :: st) H) ∧
  (∀ ls st H, aGo cl none cd_108 1 2 ls st H = aGo cl none cd_108 1 4 ls (.int 69 :: st) H) ∧
  (∀ ls st H, aGo cl none cd_108 1 4 ls st H = aCallI (fun st H => aGo cl none cd_108 1 7 ls st H) cl 106 3 H st) ∧
  (∀ ls st H, aGo cl none cd_108 1 7 ls st H = aIret 1 st H) :=
  ⟨fun _ _ _ => (aGo_s rfl).trans rfl, fun _ _ _ => (aGo_s rfl).trans rfl, fun _ _ _ => (aGo_s rfl).trans rfl, fun _ _ _ => (aGo_s rfl).trans rfl, fun _ _ _ => (aGo_s rfl).trans rfl⟩
theorem e_108 {d : Nat} {x0 : Int32} {H : aH} : aCall aMt (d + 1) 108 [.int x0] H = aGo (aCall aMt d) none cd_108 1 0 [some (.int x0)] [] H := (c_0 rfl ⟨rfl, Nat.le_of_ble_eq_true rfl, Nat.le_of_ble_eq_true rfl⟩).trans rfl
theorem s_109 {cl : Nat → List Value → aH → aRs} : (∀ ls st H, aGo cl none cd_109 1 0 ls st H = aILoad (fun st => aGo cl none cd_109 1 1 ls st H) ls 2 st) ∧
  (∀ ls st H, aGo cl none cd_109 1 1 ls st H = aSwS (fun p st => aGo cl none cd_109 1 p ls st H) [(0, 28), (1, 36), (2, 44)] 74 st) ∧
  (∀ ls st H, aGo cl none cd_109 1 28 ls st H = aILoad (fun st => aGo cl none cd_109 1 29 ls st H) ls 3 st) ∧
  (∀ ls st H, aGo cl none cd_109 1 29 ls st H = aGo cl none cd_109 1 30 ls (.int 0 :: st) H) ∧
  (∀ ls st H, aGo cl none cd_109 1 30 ls st H = aGo cl none cd_109 1 32 ls (.int 99 :: st) H) ∧
  (∀ ls st H, aGo cl none cd_109 1 32 ls st H = aCallI (fun st H => aGo cl none cd_109 1 35 ls st H) cl 106 3 H st) ∧
  (∀ ls st H, aGo cl none cd_109 1 35 ls st H = aIret 1 st H) ∧
  (∀ ls st H, aGo cl none cd_109 1 36 ls st H = aILoad (fun st => aGo cl none cd_109 1 37 ls st H) ls 3 st) ∧
  (∀ ls st H, aGo cl none cd_109 1 37 ls st H = aGo cl none cd_109 1 38 ls (.int 0 :: st) H) ∧
  (∀ ls st H, aGo cl none cd_109 1 38 ls st H = aGo cl none cd_109 1 40 ls (.int 9 :: st) H) ∧
  (∀ ls st H, aGo cl none cd_109 1 40 ls st H = aCallI (fun st H => aGo cl none cd_109 1 43 ls st H) cl 106 3 H st) ∧
  (∀ ls st H, aGo cl none cd_109 1 43 ls st H = aIret 1 st H) ∧
  (∀ ls st H, aGo cl none cd_109 1 44 ls st H = aILoad (fun st => aGo cl none cd_109 1 45 ls st H) ls 3 st) ∧
  (∀ ls st H, aGo cl none cd_109 1 45 ls st H = aGo cl none cd_109 1 46 ls (.int (-1) :: st) H) ∧
  (∀ ls st H, aGo cl none cd_109 1 46 ls st H = aIc (fun p st => aGo cl none cd_109 1 p ls st H) .eq 68 49 st) ∧
  (∀ ls st H, aGo cl none cd_109 1 49 ls st H = aILoad (fun st => aGo cl none cd_109 1 50 ls st H) ls 3 st) ∧
  (∀ ls st H, aGo cl none cd_109 1 50 ls st H = aRLoad (fun st => aGo cl none cd_109 1 51 ls st H) ls 1 st) ∧
  (∀ ls st H, aGo cl none cd_109 1 51 ls st H = aGet (fun st => aGo cl none cd_109 1 54 ls st H) 2 0 H st) ∧
  (∀ ls st H, aGo cl none cd_109 1 54 ls st H = aIc (fun p st => aGo cl none cd_109 1 p ls st H) .eq 72 57 st) ∧
  (∀ ls st H, aGo cl none cd_109 1 57 ls st H = aRLoad (fun st => aGo cl none cd_109 1 58 ls st H) ls 0 st) ∧
  (∀ ls st H, aGo cl none cd_109 1 58 ls st H = aGet (fun st => aGo cl none cd_109 1 61 ls st H) 7 0 H st) ∧
  (∀ ls st H, aGo cl none cd_109 1 61 ls st H = aILoad (fun st => aGo cl none cd_109 1 62 ls st H) ls 3 st) ∧
  (∀ ls st H, aGo cl none cd_109 1 62 ls st H = aCallV (fun st H => aGo cl none cd_109 1 65 ls st H) cl 2 1 0 H st) ∧
  (∀ ls st H, aGo cl none cd_109 1 65 ls st H = aNul (fun p st => aGo cl none cd_109 1 p ls st H) 72 68 st) ∧
  (∀ ls st H, aGo cl none cd_109 1 68 ls st H = aGo cl none cd_109 1 69 ls (.int 1 :: st) H) ∧
  (∀ ls st H, aGo cl none cd_109 1 69 ls st H = aGo cl none cd_109 1 73 ls st H) ∧
  (∀ ls st H, aGo cl none cd_109 1 72 ls st H = aGo cl none cd_109 1 73 ls (.int 0 :: st) H) ∧
  (∀ ls st H, aGo cl none cd_109 1 73 ls st H = aIret 1 st H) ∧
  (∀ ls st H, aGo cl none cd_109 1 74 ls st H = aGo cl none cd_109 1 75 ls (.int 0 :: st) H) ∧
  (∀ ls st H, aGo cl none cd_109 1 75 ls st H = aIret 1 st H) :=
  ⟨fun _ _ _ => (aGo_s rfl).trans rfl, fun _ _ _ => (aGo_s rfl).trans rfl, fun _ _ _ => (aGo_s rfl).trans rfl, fun _ _ _ => (aGo_s rfl).trans rfl, fun _ _ _ => (aGo_s rfl).trans rfl, fun _ _ _ => (aGo_s rfl).trans rfl, fun _ _ _ => (aGo_s rfl).trans rfl, fun _ _ _ => (aGo_s rfl).trans rfl, fun _ _ _ => (aGo_s rfl).trans rfl, fun _ _ _ => (aGo_s rfl).trans rfl, fun _ _ _ => (aGo_s rfl).trans rfl, fun _ _ _ => (aGo_s rfl).trans rfl, fun _ _ _ => (aGo_s rfl).trans rfl, fun _ _ _ => (aGo_s rfl).trans rfl, fun _ _ _ => (aGo_s rfl).trans rfl, fun _ _ _ => (aGo_s rfl).trans rfl, fun _ _ _ => (aGo_s rfl).trans rfl, fun _ _ _ => (aGo_s rfl).trans rfl, fun _ _ _ => (aGo_s rfl).trans rfl, fun _ _ _ => (aGo_s rfl).trans rfl, fun _ _ _ => (aGo_s rfl).trans rfl, fun _ _ _ => (aGo_s rfl).trans rfl, fun _ _ _ => (aGo_s rfl).trans rfl, fun _ _ _ => (aGo_s rfl).trans rfl, fun _ _ _ => (aGo_s rfl).trans rfl, fun _ _ _ => (aGo_s rfl).trans rfl, fun _ _ _ => (aGo_s rfl).trans rfl, fun _ _ _ => (aGo_s rfl).trans rfl, fun _ _ _ => (aGo_s rfl).trans rfl, fun _ _ _ => (aGo_s rfl).trans rfl⟩
theorem e_109 {d : Nat} {x0 : Nat} {x1 : Nat} {x2 : Int32} {x3 : Int32} {H : aH} : aCall aMt (d + 1) 109 [.ref x0, .ref x1, .int x2, .int x3] H = aGo (aCall aMt d) none cd_109 1 0 [some (.ref x0), some (.ref x1), some (.int x2), some (.int x3)] [] H := (c_0 rfl ⟨rfl, Nat.le_of_ble_eq_true rfl, Nat.le_of_ble_eq_true rfl⟩).trans rfl
theorem s_110 {cl : Nat → List Value → aH → aRs} : (∀ ls st H, aGo cl none cd_110 2 0 ls st H = aILoad (fun st => aGo cl none cd_110 2 1 ls st H) ls 1 st) ∧
  (∀ ls st H, aGo cl none cd_110 2 1 ls st H = aGo cl none cd_110 2 2 ls (.int 0 :: st) H) ∧
  (∀ ls st H, aGo cl none cd_110 2 2 ls st H = aGo cl none cd_110 2 3 ls (.int 3 :: st) H) ∧
  (∀ ls st H, aGo cl none cd_110 2 3 ls st H = aCallI (fun st H => aGo cl none cd_110 2 6 ls st H) cl 106 3 H st) ∧
  (∀ ls st H, aGo cl none cd_110 2 6 ls st H = aIf (fun p st => aGo cl none cd_110 2 p ls st H) .eq 18 9 st) ∧
  (∀ ls st H, aGo cl none cd_110 2 9 ls st H = aRLoad (fun st => aGo cl none cd_110 2 10 ls st H) ls 0 st) ∧
  (∀ ls st H, aGo cl none cd_110 2 10 ls st H = aGet (fun st => aGo cl none cd_110 2 13 ls st H) 7 5 H st) ∧
  (∀ ls st H, aGo cl none cd_110 2 13 ls st H = aILoad (fun st => aGo cl none cd_110 2 14 ls st H) ls 1 st) ∧
  (∀ ls st H, aGo cl none cd_110 2 14 ls st H = aAald (fun st => aGo cl none cd_110 2 15 ls st H) H st) ∧
  (∀ ls st H, aGo cl none cd_110 2 15 ls st H = aGo cl none cd_110 2 19 ls st H) ∧
  (∀ ls st H, aGo cl none cd_110 2 18 ls st H = aGo cl none cd_110 2 19 ls (.null :: st) H) ∧
  (∀ ls st H, aGo cl none cd_110 2 19 ls st H = aAret 2 st H) :=
  ⟨fun _ _ _ => (aGo_s rfl).trans rfl, fun _ _ _ => (aGo_s rfl).trans rfl, fun _ _ _ => (aGo_s rfl).trans rfl, fun _ _ _ => (aGo_s rfl).trans rfl, fun _ _ _ => (aGo_s rfl).trans rfl, fun _ _ _ => (aGo_s rfl).trans rfl, fun _ _ _ => (aGo_s rfl).trans rfl, fun _ _ _ => (aGo_s rfl).trans rfl, fun _ _ _ => (aGo_s rfl).trans rfl, fun _ _ _ => (aGo_s rfl).trans rfl, fun _ _ _ => (aGo_s rfl).trans rfl, fun _ _ _ => (aGo_s rfl).trans rfl⟩
theorem e_110 {d : Nat} {x0 : Nat} {x1 : Int32} {H : aH} : aCall aMt (d + 1) 110 [.ref x0, .int x1] H = aGo (aCall aMt d) none cd_110 2 0 [some (.ref x0), some (.int x1)] [] H := (c_0 rfl ⟨rfl, Nat.le_of_ble_eq_true rfl, Nat.le_of_ble_eq_true rfl⟩).trans rfl
theorem s_111 {cl : Nat → List Value → aH → aRs} : (∀ ls st H, aGo cl none cd_111 0 0 ls st H = aRLoad (fun st => aGo cl none cd_111 0 1 ls st H) ls 0 st) ∧
  (∀ ls st H, aGo cl none cd_111 0 1 ls st H = aGet (fun st => aGo cl none cd_111 0 4 ls st H) 7 2 H st) ∧
  (∀ ls st H, aGo cl none cd_111 0 4 ls st H = aGet (fun st => aGo cl none cd_111 0 7 ls st H) 0 1 H st) ∧
  (∀ ls st H, aGo cl none cd_111 0 7 ls st H = aILoad (fun st => aGo cl none cd_111 0 8 ls st H) ls 1 st) ∧
  (∀ ls st H, aGo cl none cd_111 0 8 ls st H = aAald (fun st => aGo cl none cd_111 0 9 ls st H) H st) ∧
  (∀ ls st H, aGo cl none cd_111 0 9 ls st H = aGet (fun st => aGo cl none cd_111 0 12 ls st H) 5 0 H st) ∧
  (∀ ls st H, aGo cl none cd_111 0 12 ls st H = aIStore (fun ls st => aGo cl none cd_111 0 13 ls st H) ls 3 st) ∧
  (∀ ls st H, aGo cl none cd_111 0 13 ls st H = aRLoad (fun st => aGo cl none cd_111 0 14 ls st H) ls 0 st) ∧
  (∀ ls st H, aGo cl none cd_111 0 14 ls st H = aGet (fun st => aGo cl none cd_111 0 17 ls st H) 7 2 H st) ∧
  (∀ ls st H, aGo cl none cd_111 0 17 ls st H = aILoad (fun st => aGo cl none cd_111 0 18 ls st H) ls 1 st) ∧
  (∀ ls st H, aGo cl none cd_111 0 18 ls st H = aILoad (fun st => aGo cl none cd_111 0 19 ls st H) ls 2 st) ∧
  (∀ ls st H, aGo cl none cd_111 0 19 ls st H = aCallV (fun st H => aGo cl none cd_111 0 22 ls st H) cl 10 2 0 H st) ∧
  (∀ ls st H, aGo cl none cd_111 0 22 ls st H = aGo cl none cd_111 0 23 ls (.int 1 :: st) H) ∧
  (∀ ls st H, aGo cl none cd_111 0 23 ls st H = aILoad (fun st => aGo cl none cd_111 0 24 ls st H) ls 3 st) ∧
  (∀ ls st H, aGo cl none cd_111 0 24 ls st H = aBin (fun st => aGo cl none cd_111 0 25 ls st H) (fun x y => x <<< (y &&& 31)) st) ∧
  (∀ ls st H, aGo cl none cd_111 0 25 ls st H = aGo cl none cd_111 0 26 ls (.int (-1) :: st) H) ∧
  (∀ ls st H, aGo cl none cd_111 0 26 ls st H = aBin (fun st => aGo cl none cd_111 0 27 ls st H) (fun x y => x ^^^ y) st) ∧
  (∀ ls st H, aGo cl none cd_111 0 27 ls st H = aBin (fun st => aGo cl none cd_111 0 28 ls st H) (fun x y => x &&& y) st) ∧
  (∀ ls st H, aGo cl none cd_111 0 28 ls st H = aCallI (fun st H => aGo cl none cd_111 0 31 ls st H) cl 219 1 H st) ∧
  (∀ ls st H, aGo cl none cd_111 0 31 ls st H = aIret 0 st H) :=
  ⟨fun _ _ _ => (aGo_s rfl).trans rfl, fun _ _ _ => (aGo_s rfl).trans rfl, fun _ _ _ => (aGo_s rfl).trans rfl, fun _ _ _ => (aGo_s rfl).trans rfl, fun _ _ _ => (aGo_s rfl).trans rfl, fun _ _ _ => (aGo_s rfl).trans rfl, fun _ _ _ => (aGo_s rfl).trans rfl, fun _ _ _ => (aGo_s rfl).trans rfl, fun _ _ _ => (aGo_s rfl).trans rfl, fun _ _ _ => (aGo_s rfl).trans rfl, fun _ _ _ => (aGo_s rfl).trans rfl, fun _ _ _ => (aGo_s rfl).trans rfl, fun _ _ _ => (aGo_s rfl).trans rfl, fun _ _ _ => (aGo_s rfl).trans rfl, fun _ _ _ => (aGo_s rfl).trans rfl, fun _ _ _ => (aGo_s rfl).trans rfl, fun _ _ _ => (aGo_s rfl).trans rfl, fun _ _ _ => (aGo_s rfl).trans rfl, fun _ _ _ => (aGo_s rfl).trans rfl, fun _ _ _ => (aGo_s rfl).trans rfl⟩
theorem e_111 {d : Nat} {x0 : Nat} {x1 : Int32} {x2 : Int32} {H : aH} : aCall aMt (d + 1) 111 [.ref x0, .int x1, .int x2] H = aGo (aCall aMt d) none cd_111 0 0 [some (.ref x0), some (.int x1), some (.int x2), none] [] H := (c_0 rfl ⟨rfl, Nat.le_of_ble_eq_true rfl, Nat.le_of_ble_eq_true rfl⟩).trans rfl
theorem s_112 {cl : Nat → List Value → aH → aRs} : (∀ ls st H, aGo cl none cd_112 0 0 ls st H = aRLoad (fun st => aGo cl none cd_112 0 1 ls st H) ls 0 st) ∧
  (∀ ls st H, aGo cl none cd_112 0 1 ls st H = aGet (fun st => aGo cl none cd_112 0 4 ls st H) 7 2 H st) ∧
  (∀ ls st H, aGo cl none cd_112 0 4 ls st H = aRLoad (fun st => aGo cl none cd_112 0 5 ls st H) ls 0 st) ∧
  (∀ ls st H, aGo cl none cd_112 0 5 ls st H = aGet (fun st => aGo cl none cd_112 0 8 ls st H) 7 0 H st) ∧
  (∀ ls st H, aGo cl none cd_112 0 8 ls st H = aCallV (fun st H => aGo cl none cd_112 0 11 ls st H) cl 1 1 0 H st) ∧
  (∀ ls st H, aGo cl none cd_112 0 11 ls st H = aGo cl none cd_112 0 12 ls (.int 0 :: st) H) ∧
  (∀ ls st H, aGo cl none cd_112 0 12 ls st H = aIStore (fun ls st => aGo cl none cd_112 0 13 ls st H) ls 1 st) ∧
  (∀ ls st H, aGo cl none cd_112 0 13 ls st H = aGo cl none cd_112 0 14 ls (.int 0 :: st) H) ∧
  (∀ ls st H, aGo cl none cd_112 0 14 ls st H = aIStore (fun ls st => aGo cl none cd_112 0 15 ls st H) ls 2 st) ∧
  (∀ ls st H, aGo cl none cd_112 0 16 ls st H = aGo cl none cd_112 0 18 ls (.int 10 :: st) H) ∧
  (∀ ls st H, aGo cl none cd_112 0 18 ls st H = aIc (fun p st => aGo cl none cd_112 0 p ls st H) .ge 61 21 st) ∧
  (∀ ls st H, aGo cl none cd_112 0 21 ls st H = aRLoad (fun st => aGo cl none cd_112 0 22 ls st H) ls 0 st) ∧
  (∀ ls st H, aGo cl none cd_112 0 22 ls st H = aGet (fun st => aGo cl none cd_112 0 25 ls st H) 7 2 H st) ∧
  (∀ ls st H, aGo cl none cd_112 0 25 ls st H = aCallV (fun st H => aGo cl none cd_112 0 28 ls st H) cl 12 0 0 H st) ∧
  (∀ ls st H, aGo cl none cd_112 0 28 ls st H = aIStore (fun ls st => aGo cl none cd_112 0 29 ls st H) ls 3 st) ∧
  (∀ ls st H, aGo cl none cd_112 0 29 ls st H = aILoad (fun st => aGo cl none cd_112 0 30 ls st H) ls 3 st) ∧
  (∀ ls st H, aGo cl none cd_112 0 30 ls st H = aGo cl none cd_112 0 31 ls (.int (-1) :: st) H) ∧
  (∀ ls st H, aGo cl none cd_112 0 31 ls st H = aIc (fun p st => aGo cl none cd_112 0 p ls st H) .ne 36 34 st) ∧
  (∀ ls st H, aGo cl none cd_112 0 34 ls st H = aILoad (fun st => aGo cl none cd_112 0 35 ls st H) ls 1 st) ∧
  (∀ ls st H, aGo cl none cd_112 0 35 ls st H = aIret 0 st H) ∧
  (∀ ls st H, aGo cl none cd_112 0 36 ls st H = aRLoad (fun st => aGo cl none cd_112 0 37 ls st H) ls 0 st) ∧
  (∀ ls st H, aGo cl none cd_112 0 37 ls st H = aGet (fun st => aGo cl none cd_112 0 40 ls st H) 7 2 H st) ∧
  (∀ ls st H, aGo cl none cd_112 0 40 ls st H = aGet (fun st => aGo cl none cd_112 0 43 ls st H) 0 1 H st) ∧
  (∀ ls st H, aGo cl none cd_112 0 43 ls st H = aILoad (fun st => aGo cl none cd_112 0 44 ls st H) ls 3 st) ∧
  (∀ ls st H, aGo cl none cd_112 0 44 ls st H = aAald (fun st => aGo cl none cd_112 0 45 ls st H) H st) ∧
  (∀ ls st H, aGo cl none cd_112 0 45 ls st H = aGo cl none cd_112 0 46 ls (.int 1 :: st) H) ∧
  (∀ ls st H, aGo cl none cd_112 0 46 ls st H = aPut (fun st H => aGo cl none cd_112 0 49 ls st H) 5 4 H st) ∧
  (∀ ls st H, aGo cl none cd_112 0 49 ls st H = aILoad (fun st => aGo cl none cd_112 0 50 ls st H) ls 1 st) ∧
  (∀ ls st H, aGo cl none cd_112 0 50 ls st H = aGo cl none cd_112 0 51 ls (.int 1 :: st) H) ∧
  (∀ ls st H, aGo cl none cd_112 0 51 ls st H = aILoad (fun st => aGo cl none cd_112 0 52 ls st H) ls 3 st) ∧
  (∀ ls st H, aGo cl none cd_112 0 52 ls st H = aBin (fun st => aGo cl none cd_112 0 53 ls st H) (fun x y => x <<< (y &&& 31)) st) ∧
  (∀ ls st H, aGo cl none cd_112 0 53 ls st H = aBin (fun st => aGo cl none cd_112 0 54 ls st H) (fun x y => x ||| y) st) ∧
  (∀ ls st H, aGo cl none cd_112 0 54 ls st H = aIStore (fun ls st => aGo cl none cd_112 0 55 ls st H) ls 1 st) ∧
  (∀ ls st H, aGo cl none cd_112 0 55 ls st H = aInc (fun ls => aGo cl none cd_112 0 58 ls st H) ls 2 1) ∧
  (∀ ls st H, aGo cl none cd_112 0 58 ls st H = aGo cl none cd_112 0 15 ls st H) ∧
  (∀ ls st H, aGo cl none cd_112 0 61 ls st H = aILoad (fun st => aGo cl none cd_112 0 62 ls st H) ls 1 st) ∧
  (∀ ls st H, aGo cl none cd_112 0 62 ls st H = aIret 0 st H) :=
  ⟨fun _ _ _ => (aGo_s rfl).trans rfl, fun _ _ _ => (aGo_s rfl).trans rfl, fun _ _ _ => (aGo_s rfl).trans rfl, fun _ _ _ => (aGo_s rfl).trans rfl, fun _ _ _ => (aGo_s rfl).trans rfl, fun _ _ _ => (aGo_s rfl).trans rfl, fun _ _ _ => (aGo_s rfl).trans rfl, fun _ _ _ => (aGo_s rfl).trans rfl, fun _ _ _ => (aGo_s rfl).trans rfl, fun _ _ _ => (aGo_s rfl).trans rfl, fun _ _ _ => (aGo_s rfl).trans rfl, fun _ _ _ => (aGo_s rfl).trans rfl, fun _ _ _ => (aGo_s rfl).trans rfl, fun _ _ _ => (aGo_s rfl).trans rfl, fun _ _ _ => (aGo_s rfl).trans rfl, fun _ _ _ => (aGo_s rfl).trans rfl, fun _ _ _ => (aGo_s rfl).trans rfl, fun _ _ _ => (aGo_s rfl).trans rfl, fun _ _ _ => (aGo_s rfl).trans rfl, fun _ _ _ => (aGo_s rfl).trans rfl, fun _ _ _ => (aGo_s rfl).trans rfl, fun _ _ _ => (aGo_s rfl).trans rfl, fun _ _ _ => (aGo_s rfl).trans rfl, fun _ _ _ => (aGo_s rfl).trans rfl, fun _ _ _ => (aGo_s rfl).trans rfl, fun _ _ _ => (aGo_s rfl).trans rfl, fun _ _ _ => (aGo_s rfl).trans rfl, fun _ _ _ => (aGo_s rfl).trans rfl, fun _ _ _ => (aGo_s rfl).trans rfl, fun _ _ _ => (aGo_s rfl).trans rfl, fun _ _ _ => (aGo_s rfl).trans rfl, fun _ _ _ => (aGo_s rfl).trans rfl, fun _ _ _ => (aGo_s rfl).trans rfl, fun _ _ _ => (aGo_s rfl).trans rfl, fun _ _ _ => (aGo_s rfl).trans rfl, fun _ _ _ => (aGo_s rfl).trans rfl, fun _ _ _ => (aGo_s rfl).trans rfl⟩
theorem s_112_15 {cl : Nat → List Value → aH → aRs} : ∀ ls st H, aGo cl none cd_112 0 15 ls st H = aILoad (fun st => aGo cl none cd_112 0 16 ls st H) ls 2 st := fun _ _ _ => (aGo_s rfl).trans rfl
theorem e_112 {d : Nat} {x0 : Nat} {H : aH} : aCall aMt (d + 1) 112 [.ref x0] H = aGo (aCall aMt d) none cd_112 0 0 [some (.ref x0), none, none, none] [] H := (c_0 rfl ⟨rfl, Nat.le_of_ble_eq_true rfl, Nat.le_of_ble_eq_true rfl⟩).trans rfl
theorem s_113 {cl : Nat → List Value → aH → aRs} : (∀ ls st H, aGo cl none cd_113 0 0 ls st H = aILoad (fun st => aGo cl none cd_113 0 1 ls st H) ls 1 st) ∧
  (∀ ls st H, aGo cl none cd_113 0 1 ls st H = aIStore (fun ls st => aGo cl none cd_113 0 2 ls st H) ls 2 st) ∧
  (∀ ls st H, aGo cl none cd_113 0 3 ls st H = aGo cl none cd_113 0 4 ls (.int 1 :: st) H) ∧
  (∀ ls st H, aGo cl none cd_113 0 4 ls st H = aIc (fun p st => aGo cl none cd_113 0 p ls st H) .le 27 7 st) ∧
  (∀ ls st H, aGo cl none cd_113 0 7 ls st H = aILoad (fun st => aGo cl none cd_113 0 8 ls st H) ls 0 st) ∧
  (∀ ls st H, aGo cl none cd_113 0 8 ls st H = aILoad (fun st => aGo cl none cd_113 0 9 ls st H) ls 2 st) ∧
  (∀ ls st H, aGo cl none cd_113 0 9 ls st H = aRem (fun st => aGo cl none cd_113 0 10 ls st H) st) ∧
  (∀ ls st H, aGo cl none cd_113 0 10 ls st H = aIf (fun p st => aGo cl none cd_113 0 p ls st H) .ne 21 13 st) ∧
  (∀ ls st H, aGo cl none cd_113 0 13 ls st H = aILoad (fun st => aGo cl none cd_113 0 14 ls st H) ls 1 st) ∧
  (∀ ls st H, aGo cl none cd_113 0 14 ls st H = aILoad (fun st => aGo cl none cd_113 0 15 ls st H) ls 2 st) ∧
  (∀ ls st H, aGo cl none cd_113 0 15 ls st H = aRem (fun st => aGo cl none cd_113 0 16 ls st H) st) ∧
  (∀ ls st H, aGo cl none cd_113 0 16 ls st H = aIf (fun p st => aGo cl none cd_113 0 p ls st H) .ne 21 19 st) ∧
  (∀ ls st H, aGo cl none cd_113 0 19 ls st H = aILoad (fun st => aGo cl none cd_113 0 20 ls st H) ls 2 st) ∧
  (∀ ls st H, aGo cl none cd_113 0 20 ls st H = aIret 0 st H) ∧
  (∀ ls st H, aGo cl none cd_113 0 21 ls st H = aInc (fun ls => aGo cl none cd_113 0 24 ls st H) ls 2 (-1)) ∧
  (∀ ls st H, aGo cl none cd_113 0 24 ls st H = aGo cl none cd_113 0 2 ls st H) ∧
  (∀ ls st H, aGo cl none cd_113 0 27 ls st H = aGo cl none cd_113 0 28 ls (.int 1 :: st) H) ∧
  (∀ ls st H, aGo cl none cd_113 0 28 ls st H = aIret 0 st H) :=
  ⟨fun _ _ _ => (aGo_s rfl).trans rfl, fun _ _ _ => (aGo_s rfl).trans rfl, fun _ _ _ => (aGo_s rfl).trans rfl, fun _ _ _ => (aGo_s rfl).trans rfl, fun _ _ _ => (aGo_s rfl).trans rfl, fun _ _ _ => (aGo_s rfl).trans rfl, fun _ _ _ => (aGo_s rfl).trans rfl, fun _ _ _ => (aGo_s rfl).trans rfl, fun _ _ _ => (aGo_s rfl).trans rfl, fun _ _ _ => (aGo_s rfl).trans rfl, fun _ _ _ => (aGo_s rfl).trans rfl, fun _ _ _ => (aGo_s rfl).trans rfl, fun _ _ _ => (aGo_s rfl).trans rfl, fun _ _ _ => (aGo_s rfl).trans rfl, fun _ _ _ => (aGo_s rfl).trans rfl, fun _ _ _ => (aGo_s rfl).trans rfl, fun _ _ _ => (aGo_s rfl).trans rfl, fun _ _ _ => (aGo_s rfl).trans rfl⟩
theorem s_113_2 {cl : Nat → List Value → aH → aRs} : ∀ ls st H, aGo cl none cd_113 0 2 ls st H = aILoad (fun st => aGo cl none cd_113 0 3 ls st H) ls 2 st := fun _ _ _ => (aGo_s rfl).trans rfl
theorem e_113 {d : Nat} {x0 : Int32} {x1 : Int32} {H : aH} : aCall aMt (d + 1) 113 [.int x0, .int x1] H = aGo (aCall aMt d) none cd_113 0 0 [some (.int x0), some (.int x1), none] [] H := (c_0 rfl ⟨rfl, Nat.le_of_ble_eq_true rfl, Nat.le_of_ble_eq_true rfl⟩).trans rfl
theorem s_114 {cl : Nat → List Value → aH → aRs} : (∀ ls st H, aGo cl none cd_114 1 0 ls st H = aRLoad (fun st => aGo cl none cd_114 1 1 ls st H) ls 0 st) ∧
  (∀ ls st H, aGo cl none cd_114 1 1 ls st H = aGet (fun st => aGo cl none cd_114 1 4 ls st H) 7 2 H st) ∧
  (∀ ls st H, aGo cl none cd_114 1 4 ls st H = aRLoad (fun st => aGo cl none cd_114 1 5 ls st H) ls 0 st) ∧
  (∀ ls st H, aGo cl none cd_114 1 5 ls st H = aGet (fun st => aGo cl none cd_114 1 8 ls st H) 7 0 H st) ∧
  (∀ ls st H, aGo cl none cd_114 1 8 ls st H = aCallV (fun st H => aGo cl none cd_114 1 11 ls st H) cl 1 1 0 H st) ∧
  (∀ ls st H, aGo cl none cd_114 1 11 ls st H = aGo cl none cd_114 1 12 ls (.int 0 :: st) H) ∧
  (∀ ls st H, aGo cl none cd_114 1 12 ls st H = aIStore (fun ls st => aGo cl none cd_114 1 13 ls st H) ls 3 st) ∧
  (∀ ls st H, aGo cl none cd_114 1 14 ls st H = aRLoad (fun st => aGo cl none cd_114 1 15 ls st H) ls 2 st) ∧
  (∀ ls st H, aGo cl none cd_114 1 15 ls st H = aGet (fun st => aGo cl none cd_114 1 18 ls st H) 4 2 H st) ∧
  (∀ ls st H, aGo cl none cd_114 1 18 ls st H = aIc (fun p st => aGo cl none cd_114 1 p ls st H) .ge 65 21 st) ∧
  (∀ ls st H, aGo cl none cd_114 1 21 ls st H = aRLoad (fun st => aGo cl none cd_114 1 22 ls st H) ls 0 st) ∧
  (∀ ls st H, aGo cl none cd_114 1 22 ls st H = aGet (fun st => aGo cl none cd_114 1 25 ls st H) 7 2 H st) ∧
  (∀ ls st H, aGo cl none cd_114 1 25 ls st H = aRLoad (fun st => aGo cl none cd_114 1 26 ls st H) ls 0 st) ∧
  (∀ ls st H, aGo cl none cd_114 1 26 ls st H = aGet (fun st => aGo cl none cd_114 1 29 ls st H) 7 2 H st) ∧
  (∀ ls st H, aGo cl none cd_114 1 29 ls st H = aGet (fun st => aGo cl none cd_114 1 32 ls st H) 0 0 H st) ∧
  (∀ ls st H, aGo cl none cd_114 1 32 ls st H = aILoad (fun st => aGo cl none cd_114 1 33 ls st H) ls 1 st) ∧
  (∀ ls st H, aGo cl none cd_114 1 33 ls st H = aAald (fun st => aGo cl none cd_114 1 34 ls st H) H st) ∧
  (∀ ls st H, aGo cl none cd_114 1 34 ls st H = aGo cl none cd_114 1 35 ls (.int 0 :: st) H) ∧
  (∀ ls st H, aGo cl none cd_114 1 35 ls st H = aCallV (fun st H => aGo cl none cd_114 1 38 ls st H) cl 13 2 0 H st) ∧
  (∀ ls st H, aGo cl none cd_114 1 38 ls st H = aIStore (fun ls st => aGo cl none cd_114 1 40 ls st H) ls 4 st) ∧
  (∀ ls st H, aGo cl none cd_114 1 40 ls st H = aILoad (fun st => aGo cl none cd_114 1 42 ls st H) ls 4 st) ∧
  (∀ ls st H, aGo cl none cd_114 1 42 ls st H = aGo cl none cd_114 1 43 ls (.int (-1) :: st) H) ∧
  (∀ ls st H, aGo cl none cd_114 1 43 ls st H = aIc (fun p st => aGo cl none cd_114 1 p ls st H) .eq 57 46 st) ∧
  (∀ ls st H, aGo cl none cd_114 1 46 ls st H = aILoad (fun st => aGo cl none cd_114 1 48 ls st H) ls 4 st) ∧
  (∀ ls st H, aGo cl none cd_114 1 48 ls st H = aRLoad (fun st => aGo cl none cd_114 1 49 ls st H) ls 2 st) ∧
  (∀ ls st H, aGo cl none cd_114 1 49 ls st H = aGet (fun st => aGo cl none cd_114 1 52 ls st H) 4 0 H st) ∧
  (∀ ls st H, aGo cl none cd_114 1 52 ls st H = aILoad (fun st => aGo cl none cd_114 1 53 ls st H) ls 3 st) ∧
  (∀ ls st H, aGo cl none cd_114 1 53 ls st H = aIald (fun st => aGo cl none cd_114 1 54 ls st H) none H st) ∧
  (∀ ls st H, aGo cl none cd_114 1 54 ls st H = aIc (fun p st => aGo cl none cd_114 1 p ls st H) .eq 59 57 st) ∧
  (∀ ls st H, aGo cl none cd_114 1 57 ls st H = aGo cl none cd_114 1 58 ls (.int 0 :: st) H) ∧
  (∀ ls st H, aGo cl none cd_114 1 58 ls st H = aIret 1 st H) ∧
  (∀ ls st H, aGo cl none cd_114 1 59 ls st H = aInc (fun ls => aGo cl none cd_114 1 62 ls st H) ls 3 1) ∧
  (∀ ls st H, aGo cl none cd_114 1 62 ls st H = aGo cl none cd_114 1 13 ls st H) ∧
  (∀ ls st H, aGo cl none cd_114 1 65 ls st H = aGo cl none cd_114 1 66 ls (.int 1 :: st) H) ∧
  (∀ ls st H, aGo cl none cd_114 1 66 ls st H = aIret 1 st H) :=
  ⟨fun _ _ _ => (aGo_s rfl).trans rfl, fun _ _ _ => (aGo_s rfl).trans rfl, fun _ _ _ => (aGo_s rfl).trans rfl, fun _ _ _ => (aGo_s rfl).trans rfl, fun _ _ _ => (aGo_s rfl).trans rfl, fun _ _ _ => (aGo_s rfl).trans rfl, fun _ _ _ => (aGo_s rfl).trans rfl, fun _ _ _ => (aGo_s rfl).trans rfl, fun _ _ _ => (aGo_s rfl).trans rfl, fun _ _ _ => (aGo_s rfl).trans rfl, fun _ _ _ => (aGo_s rfl).trans rfl, fun _ _ _ => (aGo_s rfl).trans rfl, fun _ _ _ => (aGo_s rfl).trans rfl, fun _ _ _ => (aGo_s rfl).trans rfl, fun _ _ _ => (aGo_s rfl).trans rfl, fun _ _ _ => (aGo_s rfl).trans rfl, fun _ _ _ => (aGo_s rfl).trans rfl, fun _ _ _ => (aGo_s rfl).trans rfl, fun _ _ _ => (aGo_s rfl).trans rfl, fun _ _ _ => (aGo_s rfl).trans rfl, fun _ _ _ => (aGo_s rfl).trans rfl, fun _ _ _ => (aGo_s rfl).trans rfl, fun _ _ _ => (aGo_s rfl).trans rfl, fun _ _ _ => (aGo_s rfl).trans rfl, fun _ _ _ => (aGo_s rfl).trans rfl, fun _ _ _ => (aGo_s rfl).trans rfl, fun _ _ _ => (aGo_s rfl).trans rfl, fun _ _ _ => (aGo_s rfl).trans rfl, fun _ _ _ => (aGo_s rfl).trans rfl, fun _ _ _ => (aGo_s rfl).trans rfl, fun _ _ _ => (aGo_s rfl).trans rfl, fun _ _ _ => (aGo_s rfl).trans rfl, fun _ _ _ => (aGo_s rfl).trans rfl, fun _ _ _ => (aGo_s rfl).trans rfl, fun _ _ _ => (aGo_s rfl).trans rfl⟩
theorem s_114_13 {cl : Nat → List Value → aH → aRs} : ∀ ls st H, aGo cl none cd_114 1 13 ls st H = aILoad (fun st => aGo cl none cd_114 1 14 ls st H) ls 3 st := fun _ _ _ => (aGo_s rfl).trans rfl
theorem e_114 {d : Nat} {x0 : Nat} {x1 : Int32} {x2 : Nat} {H : aH} : aCall aMt (d + 1) 114 [.ref x0, .int x1, .ref x2] H = aGo (aCall aMt d) none cd_114 1 0 [some (.ref x0), some (.int x1), some (.ref x2), none, none] [] H := (c_0 rfl ⟨rfl, Nat.le_of_ble_eq_true rfl, Nat.le_of_ble_eq_true rfl⟩).trans rfl
