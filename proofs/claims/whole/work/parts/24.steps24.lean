/-! rewriting rows: an instruction a row; loop heads stand alone (by program) -/
theorem s_116 {cl : Nat → List Value → aH → aRs} : (∀ ls st H, aGo cl none cd_116 0 0 ls st H = aRLoad (fun st => aGo cl none cd_116 0 1 ls st H) ls 0 st) ∧
  (∀ ls st H, aGo cl none cd_116 0 1 ls st H = aGet (fun st => aGo cl none cd_116 0 4 ls st H) 8 4 H st) ∧
  (∀ ls st H, aGo cl none cd_116 0 4 ls st H = aILoad (fun st => aGo cl none cd_116 0 5 ls st H) ls 1 st) ∧
  (∀ ls st H, aGo cl none cd_116 0 5 ls st H = aDup2 (fun st => aGo cl none cd_116 0 6 ls st H) st) ∧
  (∀ ls st H, aGo cl none cd_116 0 6 ls st H = aIald (fun st => aGo cl none cd_116 0 7 ls st H) none H st) ∧
  (∀ ls st H, aGo cl none cd_116 0 7 ls st H = aGo cl none cd_116 0 8 ls (.int 1 :: st) H) ∧
  (∀ ls st H, aGo cl none cd_116 0 8 ls st H = aBin (fun st => aGo cl none cd_116 0 9 ls st H) (fun x y => x + y) st) ∧
  (∀ ls st H, aGo cl none cd_116 0 9 ls st H = aIast (fun st H => aGo cl none cd_116 0 10 ls st H) H st) ∧
  (∀ ls st H, aGo cl none cd_116 0 10 ls st H = aGo cl none cd_116 0 12 ls (.int (-1000000000) :: st) H) ∧
  (∀ ls st H, aGo cl none cd_116 0 12 ls st H = aILoad (fun st => aGo cl none cd_116 0 13 ls st H) ls 1 st) ∧
  (∀ ls st H, aGo cl none cd_116 0 13 ls st H = aBin (fun st => aGo cl none cd_116 0 14 ls st H) (fun x y => x - y) st) ∧
  (∀ ls st H, aGo cl none cd_116 0 14 ls st H = aIret 0 st H) :=
  ⟨fun _ _ _ => (aGo_s rfl).trans rfl, fun _ _ _ => (aGo_s rfl).trans rfl, fun _ _ _ => (aGo_s rfl).trans rfl, fun _ _ _ => (aGo_s rfl).trans rfl, fun _ _ _ => (aGo_s rfl).trans rfl, fun _ _ _ => (aGo_s rfl).trans rfl, fun _ _ _ => (aGo_s rfl).trans rfl, fun _ _ _ => (aGo_s rfl).trans rfl, fun _ _ _ => (aGo_s rfl).trans rfl, fun _ _ _ => (aGo_s rfl).trans rfl, fun _ _ _ => (aGo_s rfl).trans rfl, fun _ _ _ => (aGo_s rfl).trans rfl⟩
theorem e_116 {d : Nat} {x0 : Nat} {x1 : Int32} {H : aH} : aCall aMt (d + 1) 116 [.ref x0, .int x1] H = aGo (aCall aMt d) none cd_116 0 0 [some (.ref x0), some (.int x1)] [] H := (c_0 rfl ⟨rfl, Nat.le_of_ble_eq_true rfl, Nat.le_of_ble_eq_true rfl⟩).trans rfl
theorem s_117 {cl : Nat → List Value → aH → aRs} : (∀ ls st H, aGo cl none cd_117 1 0 ls st H = aILoad (fun st => aGo cl none cd_117 1 1 ls st H) ls 0 st) ∧
  (∀ ls st H, aGo cl none cd_117 1 1 ls st H = aILoad (fun st => aGo cl none cd_117 1 2 ls st H) ls 1 st) ∧
  (∀ ls st H, aGo cl none cd_117 1 2 ls st H = aIc (fun p st => aGo cl none cd_117 1 p ls st H) .lt 14 5 st) ∧
  (∀ ls st H, aGo cl none cd_117 1 5 ls st H = aILoad (fun st => aGo cl none cd_117 1 6 ls st H) ls 0 st) ∧
  (∀ ls st H, aGo cl none cd_117 1 6 ls st H = aILoad (fun st => aGo cl none cd_117 1 7 ls st H) ls 2 st) ∧
  (∀ ls st H, aGo cl none cd_117 1 7 ls st H = aIc (fun p st => aGo cl none cd_117 1 p ls st H) .gt 14 10 st) ∧
  (∀ ls st H, aGo cl none cd_117 1 10 ls st H = aGo cl none cd_117 1 11 ls (.int 1 :: st) H) ∧
  (∀ ls st H, aGo cl none cd_117 1 11 ls st H = aGo cl none cd_117 1 15 ls st H) ∧
  (∀ ls st H, aGo cl none cd_117 1 14 ls st H = aGo cl none cd_117 1 15 ls (.int 0 :: st) H) ∧
  (∀ ls st H, aGo cl none cd_117 1 15 ls st H = aIret 1 st H) :=
  ⟨fun _ _ _ => (aGo_s rfl).trans rfl, fun _ _ _ => (aGo_s rfl).trans rfl, fun _ _ _ => (aGo_s rfl).trans rfl, fun _ _ _ => (aGo_s rfl).trans rfl, fun _ _ _ => (aGo_s rfl).trans rfl, fun _ _ _ => (aGo_s rfl).trans rfl, fun _ _ _ => (aGo_s rfl).trans rfl, fun _ _ _ => (aGo_s rfl).trans rfl, fun _ _ _ => (aGo_s rfl).trans rfl, fun _ _ _ => (aGo_s rfl).trans rfl⟩
theorem e_117 {d : Nat} {x0 : Int32} {x1 : Int32} {x2 : Int32} {H : aH} : aCall aMt (d + 1) 117 [.int x0, .int x1, .int x2] H = aGo (aCall aMt d) none cd_117 1 0 [some (.int x0), some (.int x1), some (.int x2)] [] H := (c_0 rfl ⟨rfl, Nat.le_of_ble_eq_true rfl, Nat.le_of_ble_eq_true rfl⟩).trans rfl
theorem s_118 {cl : Nat → List Value → aH → aRs} : (∀ ls st H, aGo cl none cd_118 0 0 ls st H = aILoad (fun st => aGo cl none cd_118 0 1 ls st H) ls 0 st) ∧
  (∀ ls st H, aGo cl none cd_118 0 1 ls st H = aILoad (fun st => aGo cl none cd_118 0 2 ls st H) ls 1 st) ∧
  (∀ ls st H, aGo cl none cd_118 0 2 ls st H = aIc (fun p st => aGo cl none cd_118 0 p ls st H) .ge 9 5 st) ∧
  (∀ ls st H, aGo cl none cd_118 0 5 ls st H = aILoad (fun st => aGo cl none cd_118 0 6 ls st H) ls 1 st) ∧
  (∀ ls st H, aGo cl none cd_118 0 6 ls st H = aGo cl none cd_118 0 19 ls st H) ∧
  (∀ ls st H, aGo cl none cd_118 0 9 ls st H = aILoad (fun st => aGo cl none cd_118 0 10 ls st H) ls 0 st) ∧
  (∀ ls st H, aGo cl none cd_118 0 10 ls st H = aILoad (fun st => aGo cl none cd_118 0 11 ls st H) ls 2 st) ∧
  (∀ ls st H, aGo cl none cd_118 0 11 ls st H = aIc (fun p st => aGo cl none cd_118 0 p ls st H) .le 18 14 st) ∧
  (∀ ls st H, aGo cl none cd_118 0 14 ls st H = aILoad (fun st => aGo cl none cd_118 0 15 ls st H) ls 2 st) ∧
  (∀ ls st H, aGo cl none cd_118 0 15 ls st H = aGo cl none cd_118 0 19 ls st H) ∧
  (∀ ls st H, aGo cl none cd_118 0 18 ls st H = aILoad (fun st => aGo cl none cd_118 0 19 ls st H) ls 0 st) ∧
  (∀ ls st H, aGo cl none cd_118 0 19 ls st H = aIret 0 st H) :=
  ⟨fun _ _ _ => (aGo_s rfl).trans rfl, fun _ _ _ => (aGo_s rfl).trans rfl, fun _ _ _ => (aGo_s rfl).trans rfl, fun _ _ _ => (aGo_s rfl).trans rfl, fun _ _ _ => (aGo_s rfl).trans rfl, fun _ _ _ => (aGo_s rfl).trans rfl, fun _ _ _ => (aGo_s rfl).trans rfl, fun _ _ _ => (aGo_s rfl).trans rfl, fun _ _ _ => (aGo_s rfl).trans rfl, fun _ _ _ => (aGo_s rfl).trans rfl, fun _ _ _ => (aGo_s rfl).trans rfl, fun _ _ _ => (aGo_s rfl).trans rfl⟩
theorem e_118 {d : Nat} {x0 : Int32} {x1 : Int32} {x2 : Int32} {H : aH} : aCall aMt (d + 1) 118 [.int x0, .int x1, .int x2] H = aGo (aCall aMt d) none cd_118 0 0 [some (.int x0), some (.int x1), some (.int x2)] [] H := (c_0 rfl ⟨rfl, Nat.le_of_ble_eq_true rfl, Nat.le_of_ble_eq_true rfl⟩).trans rfl
theorem s_119 {cl : Nat → List Value → aH → aRs} : (∀ ls st H, aGo cl none cd_119 3 0 ls st H = aGo cl none cd_119 3 1 ls (.int 0 :: st) H) ∧
  (∀ ls st H, aGo cl none cd_119 3 1 ls st H = aIStore (fun ls st => aGo cl none cd_119 3 2 ls st H) ls 2 st) ∧
  (∀ ls st H, aGo cl none cd_119 3 3 ls st H = aGo cl none cd_119 3 6 ls (.int 454 :: st) H) ∧
  (∀ ls st H, aGo cl none cd_119 3 6 ls st H = aIc (fun p st => aGo cl none cd_119 3 p ls st H) .ge 21 9 st) ∧
  (∀ ls st H, aGo cl none cd_119 3 9 ls st H = aRLoad (fun st => aGo cl none cd_119 3 10 ls st H) ls 1 st) ∧
  (∀ ls st H, aGo cl none cd_119 3 10 ls st H = aILoad (fun st => aGo cl none cd_119 3 11 ls st H) ls 2 st) ∧
  (∀ ls st H, aGo cl none cd_119 3 11 ls st H = aRLoad (fun st => aGo cl none cd_119 3 12 ls st H) ls 0 st) ∧
  (∀ ls st H, aGo cl none cd_119 3 12 ls st H = aILoad (fun st => aGo cl none cd_119 3 13 ls st H) ls 2 st) ∧
  (∀ ls st H, aGo cl none cd_119 3 13 ls st H = aIald (fun st => aGo cl none cd_119 3 14 ls st H) none H st) ∧
  (∀ ls st H, aGo cl none cd_119 3 14 ls st H = aIast (fun st H => aGo cl none cd_119 3 15 ls st H) H st) ∧
  (∀ ls st H, aGo cl none cd_119 3 15 ls st H = aInc (fun ls => aGo cl none cd_119 3 18 ls st H) ls 2 1) ∧
  (∀ ls st H, aGo cl none cd_119 3 18 ls st H = aGo cl none cd_119 3 2 ls st H) ∧
  (∀ ls st H, aGo cl none cd_119 3 21 ls st H = aVret 3 st H) :=
  ⟨fun _ _ _ => (aGo_s rfl).trans rfl, fun _ _ _ => (aGo_s rfl).trans rfl, fun _ _ _ => (aGo_s rfl).trans rfl, fun _ _ _ => (aGo_s rfl).trans rfl, fun _ _ _ => (aGo_s rfl).trans rfl, fun _ _ _ => (aGo_s rfl).trans rfl, fun _ _ _ => (aGo_s rfl).trans rfl, fun _ _ _ => (aGo_s rfl).trans rfl, fun _ _ _ => (aGo_s rfl).trans rfl, fun _ _ _ => (aGo_s rfl).trans rfl, fun _ _ _ => (aGo_s rfl).trans rfl, fun _ _ _ => (aGo_s rfl).trans rfl, fun _ _ _ => (aGo_s rfl).trans rfl⟩
theorem s_119_2 {cl : Nat → List Value → aH → aRs} : ∀ ls st H, aGo cl none cd_119 3 2 ls st H = aILoad (fun st => aGo cl none cd_119 3 3 ls st H) ls 2 st := fun _ _ _ => (aGo_s rfl).trans rfl
theorem e_119 {d : Nat} {x0 : Nat} {x1 : Nat} {H : aH} : aCall aMt (d + 1) 119 [.ref x0, .ref x1] H = aGo (aCall aMt d) none cd_119 3 0 [some (.ref x0), some (.ref x1), none] [] H := (c_0 rfl ⟨rfl, Nat.le_of_ble_eq_true rfl, Nat.le_of_ble_eq_true rfl⟩).trans rfl
theorem s_120 {cl : Nat → List Value → aH → aRs} : (∀ ls st H, aGo cl none cd_120 3 0 ls st H = aGo cl none cd_120 3 1 ls (.int 0 :: st) H) ∧
  (∀ ls st H, aGo cl none cd_120 3 1 ls st H = aIStore (fun ls st => aGo cl none cd_120 3 2 ls st H) ls 1 st) ∧
  (∀ ls st H, aGo cl none cd_120 3 3 ls st H = aGo cl none cd_120 3 5 ls (.int 120 :: st) H) ∧
  (∀ ls st H, aGo cl none cd_120 3 5 ls st H = aIc (fun p st => aGo cl none cd_120 3 p ls st H) .ge 26 8 st) ∧
  (∀ ls st H, aGo cl none cd_120 3 8 ls st H = aRLoad (fun st => aGo cl none cd_120 3 9 ls st H) ls 0 st) ∧
  (∀ ls st H, aGo cl none cd_120 3 9 ls st H = aGet (fun st => aGo cl none cd_120 3 12 ls st H) 8 2 H st) ∧
  (∀ ls st H, aGo cl none cd_120 3 12 ls st H = aILoad (fun st => aGo cl none cd_120 3 13 ls st H) ls 1 st) ∧
  (∀ ls st H, aGo cl none cd_120 3 13 ls st H = aRLoad (fun st => aGo cl none cd_120 3 14 ls st H) ls 0 st) ∧
  (∀ ls st H, aGo cl none cd_120 3 14 ls st H = aGet (fun st => aGo cl none cd_120 3 17 ls st H) 8 0 H st) ∧
  (∀ ls st H, aGo cl none cd_120 3 17 ls st H = aILoad (fun st => aGo cl none cd_120 3 18 ls st H) ls 1 st) ∧
  (∀ ls st H, aGo cl none cd_120 3 18 ls st H = aIald (fun st => aGo cl none cd_120 3 19 ls st H) none H st) ∧
  (∀ ls st H, aGo cl none cd_120 3 19 ls st H = aIast (fun st H => aGo cl none cd_120 3 20 ls st H) H st) ∧
  (∀ ls st H, aGo cl none cd_120 3 20 ls st H = aInc (fun ls => aGo cl none cd_120 3 23 ls st H) ls 1 1) ∧
  (∀ ls st H, aGo cl none cd_120 3 23 ls st H = aGo cl none cd_120 3 2 ls st H) ∧
  (∀ ls st H, aGo cl none cd_120 3 26 ls st H = aVret 3 st H) :=
  ⟨fun _ _ _ => (aGo_s rfl).trans rfl, fun _ _ _ => (aGo_s rfl).trans rfl, fun _ _ _ => (aGo_s rfl).trans rfl, fun _ _ _ => (aGo_s rfl).trans rfl, fun _ _ _ => (aGo_s rfl).trans rfl, fun _ _ _ => (aGo_s rfl).trans rfl, fun _ _ _ => (aGo_s rfl).trans rfl, fun _ _ _ => (aGo_s rfl).trans rfl, fun _ _ _ => (aGo_s rfl).trans rfl, fun _ _ _ => (aGo_s rfl).trans rfl, fun _ _ _ => (aGo_s rfl).trans rfl, fun _ _ _ => (aGo_s rfl).trans rfl, fun _ _ _ => (aGo_s rfl).trans rfl, fun _ _ _ => (aGo_s rfl).trans rfl, fun _ _ _ => (aGo_s rfl).trans rfl⟩
theorem s_120_2 {cl : Nat → List Value → aH → aRs} : ∀ ls st H, aGo cl none cd_120 3 2 ls st H = aILoad (fun st => aGo cl none cd_120 3 3 ls st H) ls 1 st := fun _ _ _ => (aGo_s rfl).trans rfl
theorem e_120 {d : Nat} {x0 : Nat} {H : aH} : aCall aMt (d + 1) 120 [.ref x0] H = aGo (aCall aMt d) none cd_120 3 0 [some (.ref x0), none] [] H := (c_0 rfl ⟨rfl, Nat.le_of_ble_eq_true rfl, Nat.le_of_ble_eq_true rfl⟩).trans rfl
theorem s_121 {cl : Nat → List Value → aH → aRs} : (∀ ls st H, aGo cl none cd_121 3 0 ls st H = aGo cl none cd_121 3 1 ls (.int 0 :: st) H) ∧
  (∀ ls st H, aGo cl none cd_121 3 1 ls st H = aIStore (fun ls st => aGo cl none cd_121 3 2 ls st H) ls 1 st) ∧
  (∀ ls st H, aGo cl none cd_121 3 3 ls st H = aGo cl none cd_121 3 5 ls (.int 120 :: st) H) ∧
  (∀ ls st H, aGo cl none cd_121 3 5 ls st H = aIc (fun p st => aGo cl none cd_121 3 p ls st H) .ge 26 8 st) ∧
  (∀ ls st H, aGo cl none cd_121 3 8 ls st H = aRLoad (fun st => aGo cl none cd_121 3 9 ls st H) ls 0 st) ∧
  (∀ ls st H, aGo cl none cd_121 3 9 ls st H = aGet (fun st => aGo cl none cd_121 3 12 ls st H) 8 0 H st) ∧
  (∀ ls st H, aGo cl none cd_121 3 12 ls st H = aILoad (fun st => aGo cl none cd_121 3 13 ls st H) ls 1 st) ∧
  (∀ ls st H, aGo cl none cd_121 3 13 ls st H = aRLoad (fun st => aGo cl none cd_121 3 14 ls st H) ls 0 st) ∧
  (∀ ls st H, aGo cl none cd_121 3 14 ls st H = aGet (fun st => aGo cl none cd_121 3 17 ls st H) 8 2 H st) ∧
  (∀ ls st H, aGo cl none cd_121 3 17 ls st H = aILoad (fun st => aGo cl none cd_121 3 18 ls st H) ls 1 st) ∧
  (∀ ls st H, aGo cl none cd_121 3 18 ls st H = aIald (fun st => aGo cl none cd_121 3 19 ls st H) none H st) ∧
  (∀ ls st H, aGo cl none cd_121 3 19 ls st H = aIast (fun st H => aGo cl none cd_121 3 20 ls st H) H st) ∧
  (∀ ls st H, aGo cl none cd_121 3 20 ls st H = aInc (fun ls => aGo cl none cd_121 3 23 ls st H) ls 1 1) ∧
  (∀ ls st H, aGo cl none cd_121 3 23 ls st H = aGo cl none cd_121 3 2 ls st H) ∧
  (∀ ls st H, aGo cl none cd_121 3 26 ls st H = aVret 3 st H) :=
  ⟨fun _ _ _ => (aGo_s rfl).trans rfl, fun _ _ _ => (aGo_s rfl).trans rfl, fun _ _ _ => (aGo_s rfl).trans rfl, fun _ _ _ => (aGo_s rfl).trans rfl, fun _ _ _ => (aGo_s rfl).trans rfl, fun _ _ _ => (aGo_s rfl).trans rfl, fun _ _ _ => (aGo_s rfl).trans rfl, fun _ _ _ => (aGo_s rfl).trans rfl, fun _ _ _ => (aGo_s rfl).trans rfl, fun _ _ _ => (aGo_s rfl).trans rfl, fun _ _ _ => (aGo_s rfl).trans rfl, fun _ _ _ => (aGo_s rfl).trans rfl, fun _ _ _ => (aGo_s rfl).trans rfl, fun _ _ _ => (aGo_s rfl).trans rfl, fun _ _ _ => (aGo_s rfl).trans rfl⟩
theorem s_121_2 {cl : Nat → List Value → aH → aRs} : ∀ ls st H, aGo cl none cd_121 3 2 ls st H = aILoad (fun st => aGo cl none cd_121 3 3 ls st H) ls 1 st := fun _ _ _ => (aGo_s rfl).trans rfl
theorem e_121 {d : Nat} {x0 : Nat} {H : aH} : aCall aMt (d + 1) 121 [.ref x0] H = aGo (aCall aMt d) none cd_121 3 0 [some (.ref x0), none] [] H := (c_0 rfl ⟨rfl, Nat.le_of_ble_eq_true rfl, Nat.le_of_ble_eq_true rfl⟩).trans rfl
theorem s_122 {cl : Nat → List Value → aH → aRs} : (∀ ls st H, aGo cl none cd_122 1 0 ls st H = aILoad (fun st => aGo cl none cd_122 1 1 ls st H) ls 1 st) ∧
  (∀ ls st H, aGo cl none cd_122 1 1 ls st H = aGo cl none cd_122 1 2 ls (.int 0 :: st) H) ∧
  (∀ ls st H, aGo cl none cd_122 1 2 ls st H = aRLoad (fun st => aGo cl none cd_122 1 3 ls st H) ls 0 st) ∧
  (∀ ls st H, aGo cl none cd_122 1 3 ls st H = aGet (fun st => aGo cl none cd_122 1 6 ls st H) 8 0 H st) ∧
  (∀ ls st H, aGo cl none cd_122 1 6 ls st H = aGo cl none cd_122 1 8 ls (.int 7 :: st) H) ∧
  (∀ ls st H, aGo cl none cd_122 1 8 ls st H = aIald (fun st => aGo cl none cd_122 1 9 ls st H) none H st) ∧
  (∀ ls st H, aGo cl none cd_122 1 9 ls st H = aGo cl none cd_122 1 10 ls (.int 1 :: st) H) ∧
  (∀ ls st H, aGo cl none cd_122 1 10 ls st H = aBin (fun st => aGo cl none cd_122 1 11 ls st H) (fun x y => x - y) st) ∧
  (∀ ls st H, aGo cl none cd_122 1 11 ls st H = aCallI (fun st H => aGo cl none cd_122 1 14 ls st H) cl 117 3 H st) ∧
  (∀ ls st H, aGo cl none cd_122 1 14 ls st H = aIret 1 st H) :=
  ⟨fun _ _ _ => (aGo_s rfl).trans rfl, fun _ _ _ => (aGo_s rfl).trans rfl, fun _ _ _ => (aGo_s rfl).trans rfl, fun _ _ _ => (aGo_s rfl).trans rfl, fun _ _ _ => (aGo_s rfl).trans rfl, fun _ _ _ => (aGo_s rfl).trans rfl, fun _ _ _ => (aGo_s rfl).trans rfl, fun _ _ _ => (aGo_s rfl).trans rfl, fun _ _ _ => (aGo_s rfl).trans rfl, fun _ _ _ => (aGo_s rfl).trans rfl⟩
theorem e_122 {d : Nat} {x0 : Nat} {x1 : Int32} {H : aH} : aCall aMt (d + 1) 122 [.ref x0, .int x1] H = aGo (aCall aMt d) none cd_122 1 0 [some (.ref x0), some (.int x1)] [] H := (c_0 rfl ⟨rfl, Nat.le_of_ble_eq_true rfl, Nat.le_of_ble_eq_true rfl⟩).trans rfl
theorem s_123 {cl : Nat → List Value → aH → aRs} : (∀ ls st H, aGo cl none cd_123 1 0 ls st H = aILoad (fun st => aGo cl none cd_123 1 1 ls st H) ls 1 st) ∧
  (∀ ls st H, aGo cl none cd_123 1 1 ls st H = aGo cl none cd_123 1 2 ls (.int 0 :: st) H) ∧
  (∀ ls st H, aGo cl none cd_123 1 2 ls st H = aRLoad (fun st => aGo cl none cd_123 1 3 ls st H) ls 0 st) ∧
  (∀ ls st H, aGo cl none cd_123 1 3 ls st H = aGet (fun st => aGo cl none cd_123 1 6 ls st H) 8 0 H st) ∧
  (∀ ls st H, aGo cl none cd_123 1 6 ls st H = aGo cl none cd_123 1 8 ls (.int 8 :: st) H) ∧
  (∀ ls st H, aGo cl none cd_123 1 8 ls st H = aIald (fun st => aGo cl none cd_123 1 9 ls st H) none H st) ∧
  (∀ ls st H, aGo cl none cd_123 1 9 ls st H = aGo cl none cd_123 1 10 ls (.int 1 :: st) H) ∧
  (∀ ls st H, aGo cl none cd_123 1 10 ls st H = aBin (fun st => aGo cl none cd_123 1 11 ls st H) (fun x y => x - y) st) ∧
  (∀ ls st H, aGo cl none cd_123 1 11 ls st H = aCallI (fun st H => aGo cl none cd_123 1 14 ls st H) cl 117 3 H st) ∧
  (∀ ls st H, aGo cl none cd_123 1 14 ls st H = aIret 1 st H) :=
  ⟨fun _ _ _ => (aGo_s rfl).trans rfl, fun _ _ _ => (aGo_s rfl).trans rfl, fun _ _ _ => (aGo_s rfl).trans rfl, fun _ _ _ => (aGo_s rfl).trans rfl, fun _ _ _ => (aGo_s rfl).trans rfl, fun _ _ _ => (aGo_s rfl).trans rfl, fun _ _ _ => (aGo_s rfl).trans rfl, fun _ _ _ => (aGo_s rfl).trans rfl, fun _ _ _ => (aGo_s rfl).trans rfl, fun _ _ _ => (aGo_s rfl).trans rfl⟩
theorem e_123 {d : Nat} {x0 : Nat} {x1 : Int32} {H : aH} : aCall aMt (d + 1) 123 [.ref x0, .int x1] H = aGo (aCall aMt d) none cd_123 1 0 [some (.ref x0), some (.int x1)] [] H := (c_0 rfl ⟨rfl, Nat.le_of_ble_eq_true rfl, Nat.le_of_ble_eq_true rfl⟩).trans rfl
theorem s_124 {cl : Nat → List Value → aH → aRs} : (∀ ls st H, aGo cl none cd_124 0 0 ls st H = aRLoad (fun st => aGo cl none cd_124 0 1 ls st H) ls 0 st) ∧
  (∀ ls st H, aGo cl none cd_124 0 1 ls st H = aGet (fun st => aGo cl none cd_124 0 4 ls st H) 8 0 H st) ∧
  (∀ ls st H, aGo cl none cd_124 0 4 ls st H = aGo cl none cd_124 0 6 ls (.int 10 :: st) H) ∧
  (∀ ls st H, aGo cl none cd_124 0 6 ls st H = aGo cl none cd_124 0 7 ls (.int 5 :: st) H) ∧
  (∀ ls st H, aGo cl none cd_124 0 7 ls st H = aILoad (fun st => aGo cl none cd_124 0 8 ls st H) ls 1 st) ∧
  (∀ ls st H, aGo cl none cd_124 0 8 ls st H = aBin (fun st => aGo cl none cd_124 0 9 ls st H) (fun x y => x * y) st) ∧
  (∀ ls st H, aGo cl none cd_124 0 9 ls st H = aBin (fun st => aGo cl none cd_124 0 10 ls st H) (fun x y => x + y) st) ∧
  (∀ ls st H, aGo cl none cd_124 0 10 ls st H = aILoad (fun st => aGo cl none cd_124 0 11 ls st H) ls 2 st) ∧
  (∀ ls st H, aGo cl none cd_124 0 11 ls st H = aBin (fun st => aGo cl none cd_124 0 12 ls st H) (fun x y => x + y) st) ∧
  (∀ ls st H, aGo cl none cd_124 0 12 ls st H = aIald (fun st => aGo cl none cd_124 0 13 ls st H) none H st) ∧
  (∀ ls st H, aGo cl none cd_124 0 13 ls st H = aIret 0 st H) :=
  ⟨fun _ _ _ => (aGo_s rfl).trans rfl, fun _ _ _ => (aGo_s rfl).trans rfl, fun _ _ _ => (aGo_s rfl).trans rfl, fun _ _ _ => (aGo_s rfl).trans rfl, fun _ _ _ => (aGo_s rfl).trans rfl, fun _ _ _ => (aGo_s rfl).trans rfl, fun _ _ _ => (aGo_s rfl).trans rfl, fun _ _ _ => (aGo_s rfl).trans rfl, fun _ _ _ => (aGo_s rfl).trans rfl, fun _ _ _ => (aGo_s rfl).trans rfl, fun _ _ _ => (aGo_s rfl).trans rfl⟩
theorem e_124 {d : Nat} {x0 : Nat} {x1 : Int32} {x2 : Int32} {H : aH} : aCall aMt (d + 1) 124 [.ref x0, .int x1, .int x2] H = aGo (aCall aMt d) none cd_124 0 0 [some (.ref x0), some (.int x1), some (.int x2)] [] H := (c_0 rfl ⟨rfl, Nat.le_of_ble_eq_true rfl, Nat.le_of_ble_eq_true rfl⟩).trans rfl
theorem s_125 {cl : Nat → List Value → aH → aRs} : (∀ ls st H, aGo cl none cd_125 3 0 ls st H = aRLoad (fun st => aGo cl none cd_125 3 1 ls st H) ls 0 st) ∧
  (∀ ls st H, aGo cl none cd_125 3 1 ls st H = aGet (fun st => aGo cl none cd_125 3 4 ls st H) 8 0 H st) ∧
  (∀ ls st H, aGo cl none cd_125 3 4 ls st H = aGo cl none cd_125 3 6 ls (.int 10 :: st) H) ∧
  (∀ ls st H, aGo cl none cd_125 3 6 ls st H = aGo cl none cd_125 3 7 ls (.int 5 :: st) H) ∧
  (∀ ls st H, aGo cl none cd_125 3 7 ls st H = aILoad (fun st => aGo cl none cd_125 3 8 ls st H) ls 1 st) ∧
  (∀ ls st H, aGo cl none cd_125 3 8 ls st H = aBin (fun st => aGo cl none cd_125 3 9 ls st H) (fun x y => x * y) st) ∧
  (∀ ls st H, aGo cl none cd_125 3 9 ls st H = aBin (fun st => aGo cl none cd_125 3 10 ls st H) (fun x y => x + y) st) ∧
  (∀ ls st H, aGo cl none cd_125 3 10 ls st H = aILoad (fun st => aGo cl none cd_125 3 11 ls st H) ls 2 st) ∧
  (∀ ls st H, aGo cl none cd_125 3 11 ls st H = aBin (fun st => aGo cl none cd_125 3 12 ls st H) (fun x y => x + y) st) ∧
  (∀ ls st H, aGo cl none cd_125 3 12 ls st H = aILoad (fun st => aGo cl none cd_125 3 13 ls st H) ls 3 st) ∧
  (∀ ls st H, aGo cl none cd_125 3 13 ls st H = aIast (fun st H => aGo cl none cd_125 3 14 ls st H) H st) ∧
  (∀ ls st H, aGo cl none cd_125 3 14 ls st H = aVret 3 st H) :=
  ⟨fun _ _ _ => (aGo_s rfl).trans rfl, fun _ _ _ => (aGo_s rfl).trans rfl, fun _ _ _ => (aGo_s rfl).trans rfl, fun _ _ _ => (aGo_s rfl).trans rfl, fun _ _ _ => (aGo_s rfl).trans rfl, fun _ _ _ => (aGo_s rfl).trans rfl, fun _ _ _ => (aGo_s rfl).trans rfl, fun _ _ _ => (aGo_s rfl).trans rfl, fun _ _ _ => (aGo_s rfl).trans rfl, fun _ _ _ => (aGo_s rfl).trans rfl, fun _ _ _ => (aGo_s rfl).trans rfl, fun _ _ _ => (aGo_s rfl).trans rfl⟩
theorem e_125 {d : Nat} {x0 : Nat} {x1 : Int32} {x2 : Int32} {x3 : Int32} {H : aH} : aCall aMt (d + 1) 125 [.ref x0, .int x1, .int x2, .int x3] H = aGo (aCall aMt d) none cd_125 3 0 [some (.ref x0), some (.int x1), some (.int x2), some (.int x3)] [] H := (c_0 rfl ⟨rfl, Nat.le_of_ble_eq_true rfl, Nat.le_of_ble_eq_true rfl⟩).trans rfl
theorem s_126 {cl : Nat → List Value → aH → aRs} : (∀ ls st H, aGo cl none cd_126 0 0 ls st H = aRLoad (fun st => aGo cl none cd_126 0 1 ls st H) ls 0 st) ∧
  (∀ ls st H, aGo cl none cd_126 0 1 ls st H = aGet (fun st => aGo cl none cd_126 0 4 ls st H) 8 0 H st) ∧
  (∀ ls st H, aGo cl none cd_126 0 4 ls st H = aGo cl none cd_126 0 6 ls (.int 50 :: st) H) ∧
  (∀ ls st H, aGo cl none cd_126 0 6 ls st H = aGo cl none cd_126 0 8 ls (.int 7 :: st) H) ∧
  (∀ ls st H, aGo cl none cd_126 0 8 ls st H = aILoad (fun st => aGo cl none cd_126 0 9 ls st H) ls 1 st) ∧
  (∀ ls st H, aGo cl none cd_126 0 9 ls st H = aBin (fun st => aGo cl none cd_126 0 10 ls st H) (fun x y => x * y) st) ∧
  (∀ ls st H, aGo cl none cd_126 0 10 ls st H = aBin (fun st => aGo cl none cd_126 0 11 ls st H) (fun x y => x + y) st) ∧
  (∀ ls st H, aGo cl none cd_126 0 11 ls st H = aILoad (fun st => aGo cl none cd_126 0 12 ls st H) ls 2 st) ∧
  (∀ ls st H, aGo cl none cd_126 0 12 ls st H = aBin (fun st => aGo cl none cd_126 0 13 ls st H) (fun x y => x + y) st) ∧
  (∀ ls st H, aGo cl none cd_126 0 13 ls st H = aIald (fun st => aGo cl none cd_126 0 14 ls st H) none H st) ∧
  (∀ ls st H, aGo cl none cd_126 0 14 ls st H = aIret 0 st H) :=
  ⟨fun _ _ _ => (aGo_s rfl).trans rfl, fun _ _ _ => (aGo_s rfl).trans rfl, fun _ _ _ => (aGo_s rfl).trans rfl, fun _ _ _ => (aGo_s rfl).trans rfl, fun _ _ _ => (aGo_s rfl).trans rfl, fun _ _ _ => (aGo_s rfl).trans rfl, fun _ _ _ => (aGo_s rfl).trans rfl, fun _ _ _ => (aGo_s rfl).trans rfl, fun _ _ _ => (aGo_s rfl).trans rfl, fun _ _ _ => (aGo_s rfl).trans rfl, fun _ _ _ => (aGo_s rfl).trans rfl⟩
theorem e_126 {d : Nat} {x0 : Nat} {x1 : Int32} {x2 : Int32} {H : aH} : aCall aMt (d + 1) 126 [.ref x0, .int x1, .int x2] H = aGo (aCall aMt d) none cd_126 0 0 [some (.ref x0), some (.int x1), some (.int x2)] [] H := (c_0 rfl ⟨rfl, Nat.le_of_ble_eq_true rfl, Nat.le_of_ble_eq_true rfl⟩).trans rfl
theorem s_127 {cl : Nat → List Value → aH → aRs} : (∀ ls st H, aGo cl none cd_127 3 0 ls st H = aRLoad (fun st => aGo cl none cd_127 3 1 ls st H) ls 0 st) ∧
  (∀ ls st H, aGo cl none cd_127 3 1 ls st H = aGet (fun st => aGo cl none cd_127 3 4 ls st H) 8 0 H st) ∧
  (∀ ls st H, aGo cl none cd_127 3 4 ls st H = aGo cl none cd_127 3 6 ls (.int 50 :: st) H) ∧
  (∀ ls st H, aGo cl none cd_127 3 6 ls st H = aGo cl none cd_127 3 8 ls (.int 7 :: st) H) ∧
  (∀ ls st H, aGo cl none cd_127 3 8 ls st H = aILoad (fun st => aGo cl none cd_127 3 9 ls st H) ls 1 st) ∧
  (∀ ls st H, aGo cl none cd_127 3 9 ls st H = aBin (fun st => aGo cl none cd_127 3 10 ls st H) (fun x y => x * y) st) ∧
  (∀ ls st H, aGo cl none cd_127 3 10 ls st H = aBin (fun st => aGo cl none cd_127 3 11 ls st H) (fun x y => x + y) st) ∧
  (∀ ls st H, aGo cl none cd_127 3 11 ls st H = aILoad (fun st => aGo cl none cd_127 3 12 ls st H) ls 2 st) ∧
  (∀ ls st H, aGo cl none cd_127 3 12 ls st H = aBin (fun st => aGo cl none cd_127 3 13 ls st H) (fun x y => x + y) st) ∧
  (∀ ls st H, aGo cl none cd_127 3 13 ls st H = aILoad (fun st => aGo cl none cd_127 3 14 ls st H) ls 3 st) ∧
  (∀ ls st H, aGo cl none cd_127 3 14 ls st H = aIast (fun st H => aGo cl none cd_127 3 15 ls st H) H st) ∧
  (∀ ls st H, aGo cl none cd_127 3 15 ls st H = aVret 3 st H) :=
  ⟨fun _ _ _ => (aGo_s rfl).trans rfl, fun _ _ _ => (aGo_s rfl).trans rfl, fun _ _ _ => (aGo_s rfl).trans rfl, fun _ _ _ => (aGo_s rfl).trans rfl, fun _ _ _ => (aGo_s rfl).trans rfl, fun _ _ _ => (aGo_s rfl).trans rfl, fun _ _ _ => (aGo_s rfl).trans rfl, fun _ _ _ => (aGo_s rfl).trans rfl, fun _ _ _ => (aGo_s rfl).trans rfl, fun _ _ _ => (aGo_s rfl).trans rfl, fun _ _ _ => (aGo_s rfl).trans rfl, fun _ _ _ => (aGo_s rfl).trans rfl⟩
theorem e_127 {d : Nat} {x0 : Nat} {x1 : Int32} {x2 : Int32} {x3 : Int32} {H : aH} : aCall aMt (d + 1) 127 [.ref x0, .int x1, .int x2, .int x3] H = aGo (aCall aMt d) none cd_127 3 0 [some (.ref x0), some (.int x1), some (.int x2), some (.int x3)] [] H := (c_0 rfl ⟨rfl, Nat.le_of_ble_eq_true rfl, Nat.le_of_ble_eq_true rfl⟩).trans rfl
theorem s_128 {cl : Nat → List Value → aH → aRs} : (∀ ls st H, aGo cl none cd_128 0 0 ls st H = aRLoad (fun st => aGo cl none cd_128 0 1 ls st H) ls 0 st) ∧
  (∀ ls st H, aGo cl none cd_128 0 1 ls st H = aGet (fun st => aGo cl none cd_128 0 4 ls st H) 8 0 H st) ∧
  (∀ ls st H, aGo cl none cd_128 0 4 ls st H = aILoad (fun st => aGo cl none cd_128 0 5 ls st H) ls 1 st) ∧
  (∀ ls st H, aGo cl none cd_128 0 5 ls st H = aIald (fun st => aGo cl none cd_128 0 6 ls st H) none H st) ∧
  (∀ ls st H, aGo cl none cd_128 0 6 ls st H = aIStore (fun ls st => aGo cl none cd_128 0 7 ls st H) ls 3 st) ∧
  (∀ ls st H, aGo cl none cd_128 0 7 ls st H = aRLoad (fun st => aGo cl none cd_128 0 8 ls st H) ls 0 st) ∧
  (∀ ls st H, aGo cl none cd_128 0 8 ls st H = aGet (fun st => aGo cl none cd_128 0 11 ls st H) 8 0 H st) ∧
  (∀ ls st H, aGo cl none cd_128 0 11 ls st H = aILoad (fun st => aGo cl none cd_128 0 12 ls st H) ls 1 st) ∧
  (∀ ls st H, aGo cl none cd_128 0 12 ls st H = aILoad (fun st => aGo cl none cd_128 0 13 ls st H) ls 2 st) ∧
  (∀ ls st H, aGo cl none cd_128 0 13 ls st H = aIast (fun st H => aGo cl none cd_128 0 14 ls st H) H st) ∧
  (∀ ls st H, aGo cl none cd_128 0 14 ls st H = aILoad (fun st => aGo cl none cd_128 0 15 ls st H) ls 3 st) ∧
  (∀ ls st H, aGo cl none cd_128 0 15 ls st H = aIret 0 st H) :=
  ⟨fun _ _ _ => (aGo_s rfl).trans rfl, fun _ _ _ => (aGo_s rfl).trans rfl, fun _ _ _ => (aGo_s rfl).trans rfl, fun _ _ _ => (aGo_s rfl).trans rfl, fun _ _ _ => (aGo_s rfl).trans rfl, fun _ _ _ => (aGo_s rfl).trans rfl, fun _ _ _ => (aGo_s rfl).trans rfl, fun _ _ _ => (aGo_s rfl).trans rfl, fun _ _ _ => (aGo_s rfl).trans rfl, fun _ _ _ => (aGo_s rfl).trans rfl, fun _ _ _ => (aGo_s rfl).trans rfl, fun _ _ _ => (aGo_s rfl).trans rfl⟩
theorem e_128 {d : Nat} {x0 : Nat} {x1 : Int32} {x2 : Int32} {H : aH} : aCall aMt (d + 1) 128 [.ref x0, .int x1, .int x2] H = aGo (aCall aMt d) none cd_128 0 0 [some (.ref x0), some (.int x1), some (.int x2), none] [] H := (c_0 rfl ⟨rfl, Nat.le_of_ble_eq_true rfl, Nat.le_of_ble_eq_true rfl⟩).trans rfl
theorem s_129 {cl : Nat → List Value → aH → aRs} : (∀ ls st H, aGo cl none cd_129 1 0 ls st H = aRLoad (fun st => aGo cl none cd_129 1 1 ls st H) ls 0 st) ∧
  (∀ ls st H, aGo cl none cd_129 1 1 ls st H = aILoad (fun st => aGo cl none cd_129 1 2 ls st H) ls 1 st) ∧
  (∀ ls st H, aGo cl none cd_129 1 2 ls st H = aGo cl none cd_129 1 3 ls (.int 5 :: st) H) ∧
  (∀ ls st H, aGo cl none cd_129 1 3 ls st H = aCallV (fun st H => aGo cl none cd_129 1 6 ls st H) cl 126 2 8 H st) ∧
  (∀ ls st H, aGo cl none cd_129 1 6 ls st H = aGo cl none cd_129 1 7 ls (.int 1 :: st) H) ∧
  (∀ ls st H, aGo cl none cd_129 1 7 ls st H = aIc (fun p st => aGo cl none cd_129 1 p ls st H) .ne 14 10 st) ∧
  (∀ ls st H, aGo cl none cd_129 1 10 ls st H = aGo cl none cd_129 1 11 ls (.int 1 :: st) H) ∧
  (∀ ls st H, aGo cl none cd_129 1 11 ls st H = aGo cl none cd_129 1 15 ls st H) ∧
  (∀ ls st H, aGo cl none cd_129 1 14 ls st H = aGo cl none cd_129 1 15 ls (.int 0 :: st) H) ∧
  (∀ ls st H, aGo cl none cd_129 1 15 ls st H = aIret 1 st H) :=
  ⟨fun _ _ _ => (aGo_s rfl).trans rfl, fun _ _ _ => (aGo_s rfl).trans rfl, fun _ _ _ => (aGo_s rfl).trans rfl, fun _ _ _ => (aGo_s rfl).trans rfl, fun _ _ _ => (aGo_s rfl).trans rfl, fun _ _ _ => (aGo_s rfl).trans rfl, fun _ _ _ => (aGo_s rfl).trans rfl, fun _ _ _ => (aGo_s rfl).trans rfl, fun _ _ _ => (aGo_s rfl).trans rfl, fun _ _ _ => (aGo_s rfl).trans rfl⟩
theorem e_129 {d : Nat} {x0 : Nat} {x1 : Int32} {H : aH} : aCall aMt (d + 1) 129 [.ref x0, .int x1] H = aGo (aCall aMt d) none cd_129 1 0 [some (.ref x0), some (.int x1)] [] H := (c_0 rfl ⟨rfl, Nat.le_of_ble_eq_true rfl, Nat.le_of_ble_eq_true rfl⟩).trans rfl
theorem s_130 {cl : Nat → List Value → aH → aRs} : (∀ ls st H, aGo cl none cd_130 0 0 ls st H = aGo cl none cd_130 0 1 ls (.int 0 :: st) H) ∧
  (∀ ls st H, aGo cl none cd_130 0 1 ls st H = aIStore (fun ls st => aGo cl none cd_130 0 2 ls st H) ls 1 st) ∧
  (∀ ls st H, aGo cl none cd_130 0 2 ls st H = aGo cl none cd_130 0 3 ls (.int 0 :: st) H) ∧
  (∀ ls st H, aGo cl none cd_130 0 3 ls st H = aIStore (fun ls st => aGo cl none cd_130 0 4 ls st H) ls 2 st) ∧
  (∀ ls st H, aGo cl none cd_130 0 5 ls st H = aRLoad (fun st => aGo cl none cd_130 0 6 ls st H) ls 0 st) ∧
  (∀ ls st H, aGo cl none cd_130 0 6 ls st H = aGet (fun st => aGo cl none cd_130 0 9 ls st H) 8 0 H st) ∧
  (∀ ls st H, aGo cl none cd_130 0 9 ls st H = aGo cl none cd_130 0 11 ls (.int 8 :: st) H) ∧
  (∀ ls st H, aGo cl none cd_130 0 11 ls st H = aIald (fun st => aGo cl none cd_130 0 12 ls st H) none H st) ∧
  (∀ ls st H, aGo cl none cd_130 0 12 ls st H = aIc (fun p st => aGo cl none cd_130 0 p ls st H) .ge 37 15 st) ∧
  (∀ ls st H, aGo cl none cd_130 0 15 ls st H = aILoad (fun st => aGo cl none cd_130 0 16 ls st H) ls 1 st) ∧
  (∀ ls st H, aGo cl none cd_130 0 16 ls st H = aRLoad (fun st => aGo cl none cd_130 0 17 ls st H) ls 0 st) ∧
  (∀ ls st H, aGo cl none cd_130 0 17 ls st H = aILoad (fun st => aGo cl none cd_130 0 18 ls st H) ls 2 st) ∧
  (∀ ls st H, aGo cl none cd_130 0 18 ls st H = aCallV (fun st H => aGo cl none cd_130 0 21 ls st H) cl 129 1 8 H st) ∧
  (∀ ls st H, aGo cl none cd_130 0 21 ls st H = aIf (fun p st => aGo cl none cd_130 0 p ls st H) .eq 28 24 st) ∧
  (∀ ls st H, aGo cl none cd_130 0 24 ls st H = aGo cl none cd_130 0 25 ls (.int 1 :: st) H) ∧
  (∀ ls st H, aGo cl none cd_130 0 25 ls st H = aGo cl none cd_130 0 29 ls st H) ∧
  (∀ ls st H, aGo cl none cd_130 0 28 ls st H = aGo cl none cd_130 0 29 ls (.int 0 :: st) H) ∧
  (∀ ls st H, aGo cl none cd_130 0 29 ls st H = aBin (fun st => aGo cl none cd_130 0 30 ls st H) (fun x y => x + y) st) ∧
  (∀ ls st H, aGo cl none cd_130 0 30 ls st H = aIStore (fun ls st => aGo cl none cd_130 0 31 ls st H) ls 1 st) ∧
  (∀ ls st H, aGo cl none cd_130 0 31 ls st H = aInc (fun ls => aGo cl none cd_130 0 34 ls st H) ls 2 1) ∧
  (∀ ls st H, aGo cl none cd_130 0 34 ls st H = aGo cl none cd_130 0 4 ls st H) ∧
  (∀ ls st H, aGo cl none cd_130 0 37 ls st H = aILoad (fun st => aGo cl none cd_130 0 38 ls st H) ls 1 st) ∧
  (∀ ls st H, aGo cl none cd_130 0 38 ls st H = aIret 0 st H) :=
  ⟨fun _ _ _ => (aGo_s rfl).trans rfl, fun _ _ _ => (aGo_s rfl).trans rfl, fun _ _ _ => (aGo_s rfl).trans rfl, fun _ _ _ => (aGo_s rfl).trans rfl, fun _ _ _ => (aGo_s rfl).trans rfl, fun _ _ _ => (aGo_s rfl).trans rfl, fun _ _ _ => (aGo_s rfl).trans rfl, fun _ _ _ => (aGo_s rfl).trans rfl, fun _ _ _ => (aGo_s rfl).trans rfl, fun _ _ _ => (aGo_s rfl).trans rfl, fun _ _ _ => (aGo_s rfl).trans rfl, fun _ _ _ => (aGo_s rfl).trans rfl, fun _ _ _ => (aGo_s rfl).trans rfl, fun _ _ _ => (aGo_s rfl).trans rfl, fun _ _ _ => (aGo_s rfl).trans rfl, fun _ _ _ => (aGo_s rfl).trans rfl, fun _ _ _ => (aGo_s rfl).trans rfl, fun _ _ _ => (aGo_s rfl).trans rfl, fun _ _ _ => (aGo_s rfl).trans rfl, fun _ _ _ => (aGo_s rfl).trans rfl, fun _ _ _ => (aGo_s rfl).trans rfl, fun _ _ _ => (aGo_s rfl).trans rfl, fun _ _ _ => (aGo_s rfl).trans rfl⟩
theorem s_130_4 {cl : Nat → List Value → aH → aRs} : ∀ ls st H, aGo cl none cd_130 0 4 ls st H = aILoad (fun st => aGo cl none cd_130 0 5 ls st H) ls 2 st := fun _ _ _ => (aGo_s rfl).trans rfl
theorem e_130 {d : Nat} {x0 : Nat} {H : aH} : aCall aMt (d + 1) 130 [.ref x0] H = aGo (aCall aMt d) none cd_130 0 0 [some (.ref x0), none, none] [] H := (c_0 rfl ⟨rfl, Nat.le_of_ble_eq_true rfl, Nat.le_of_ble_eq_true rfl⟩).trans rfl
theorem s_131 {cl : Nat → List Value → aH → aRs} : (∀ ls st H, aGo cl none cd_131 0 0 ls st H = aILoad (fun st => aGo cl none cd_131 0 1 ls st H) ls 3 st) ∧
  (∀ ls st H, aGo cl none cd_131 0 1 ls st H = aGo cl none cd_131 0 2 ls (.int 1 :: st) H) ∧
  (∀ ls st H, aGo cl none cd_131 0 2 ls st H = aGo cl none cd_131 0 4 ls (.int 8 :: st) H) ∧
  (∀ ls st H, aGo cl none cd_131 0 4 ls st H = aCallI (fun st H => aGo cl none cd_131 0 7 ls st H) cl 117 3 H st) ∧
  (∀ ls st H, aGo cl none cd_131 0 7 ls st H = aIf (fun p st => aGo cl none cd_131 0 p ls st H) .ne 16 10 st) ∧
  (∀ ls st H, aGo cl none cd_131 0 10 ls st H = aRLoad (fun st => aGo cl none cd_131 0 11 ls st H) ls 0 st) ∧
  (∀ ls st H, aGo cl none cd_131 0 11 ls st H = aGo cl none cd_131 0 12 ls (.int 1 :: st) H) ∧
  (∀ ls st H, aGo cl none cd_131 0 12 ls st H = aCallV (fun st H => aGo cl none cd_131 0 15 ls st H) cl 116 1 8 H st) ∧
  (∀ ls st H, aGo cl none cd_131 0 15 ls st H = aIret 0 st H) ∧
  (∀ ls st H, aGo cl none cd_131 0 16 ls st H = aRLoad (fun st => aGo cl none cd_131 0 17 ls st H) ls 0 st) ∧
  (∀ ls st H, aGo cl none cd_131 0 17 ls st H = aGet (fun st => aGo cl none cd_131 0 20 ls st H) 8 0 H st) ∧
  (∀ ls st H, aGo cl none cd_131 0 20 ls st H = aGo cl none cd_131 0 21 ls (.int 5 :: st) H) ∧
  (∀ ls st H, aGo cl none cd_131 0 21 ls st H = aIald (fun st => aGo cl none cd_131 0 22 ls st H) none H st) ∧
  (∀ ls st H, aGo cl none cd_131 0 22 ls st H = aILoad (fun st => aGo cl none cd_131 0 23 ls st H) ls 3 st) ∧
  (∀ ls st H, aGo cl none cd_131 0 23 ls st H = aBin (fun st => aGo cl none cd_131 0 24 ls st H) (fun x y => x + y) st) ∧
  (∀ ls st H, aGo cl none cd_131 0 24 ls st H = aGo cl none cd_131 0 26 ls (.int 60 :: st) H) ∧
  (∀ ls st H, aGo cl none cd_131 0 26 ls st H = aIc (fun p st => aGo cl none cd_131 0 p ls st H) .le 35 29 st) ∧
  (∀ ls st H, aGo cl none cd_131 0 29 ls st H = aRLoad (fun st => aGo cl none cd_131 0 30 ls st H) ls 0 st) ∧
  (∀ ls st H, aGo cl none cd_131 0 30 ls st H = aGo cl none cd_131 0 31 ls (.int 4 :: st) H) ∧
  (∀ ls st H, aGo cl none cd_131 0 31 ls st H = aCallV (fun st H => aGo cl none cd_131 0 34 ls st H) cl 116 1 8 H st) ∧
  (∀ ls st H, aGo cl none cd_131 0 34 ls st H = aIret 0 st H) ∧
  (∀ ls st H, aGo cl none cd_131 0 35 ls st H = aGo cl none cd_131 0 36 ls (.int 0 :: st) H) ∧
  (∀ ls st H, aGo cl none cd_131 0 36 ls st H = aIStore (fun ls st => aGo cl none cd_131 0 38 ls st H) ls 4 st) ∧
  (∀ ls st H, aGo cl none cd_131 0 40 ls st H = aILoad (fun st => aGo cl none cd_131 0 41 ls st H) ls 3 st) ∧
  (∀ ls st H, aGo cl none cd_131 0 41 ls st H = aIc (fun p st => aGo cl none cd_131 0 p ls st H) .ge 87 44 st) ∧
  (∀ ls st H, aGo cl none cd_131 0 44 ls st H = aRLoad (fun st => aGo cl none cd_131 0 45 ls st H) ls 0 st) ∧
  (∀ ls st H, aGo cl none cd_131 0 45 ls st H = aGet (fun st => aGo cl none cd_131 0 48 ls st H) 8 0 H st) ∧
  (∀ ls st H, aGo cl none cd_131 0 48 ls st H = aGo cl none cd_131 0 51 ls (.int 370 :: st) H) ∧
  (∀ ls st H, aGo cl none cd_131 0 51 ls st H = aRLoad (fun st => aGo cl none cd_131 0 52 ls st H) ls 0 st) ∧
  (∀ ls st H, aGo cl none cd_131 0 52 ls st H = aGet (fun st => aGo cl none cd_131 0 55 ls st H) 8 0 H st) ∧
  (∀ ls st H, aGo cl none cd_131 0 55 ls st H = aGo cl none cd_131 0 56 ls (.int 5 :: st) H) ∧
  (∀ ls st H, aGo cl none cd_131 0 56 ls st H = aIald (fun st => aGo cl none cd_131 0 57 ls st H) none H st) ∧
  (∀ ls st H, aGo cl none cd_131 0 57 ls st H = aBin (fun st => aGo cl none cd_131 0 58 ls st H) (fun x y => x + y) st) ∧
  (∀ ls st H, aGo cl none cd_131 0 58 ls st H = aLLoad (fun st => aGo cl none cd_131 0 59 ls st H) ls 1 st) ∧
  (∀ ls st H, aGo cl none cd_131 0 59 ls st H = aGo cl none cd_131 0 61 ls (.int 8 :: st) H) ∧
  (∀ ls st H, aGo cl none cd_131 0 61 ls st H = aILoad (fun st => aGo cl none cd_131 0 63 ls st H) ls 4 st) ∧
  (∀ ls st H, aGo cl none cd_131 0 63 ls st H = aBin (fun st => aGo cl none cd_131 0 64 ls st H) (fun x y => x * y) st) ∧
  (∀ ls st H, aGo cl none cd_131 0 64 ls st H = aShL (fun st => aGo cl none cd_131 0 65 ls st H) (fun x y => x >>> (y.toInt64 &&& 63)) st) ∧
  (∀ ls st H, aGo cl none cd_131 0 65 ls st H = aGo cl none cd_131 0 68 ls (.long (Int64.ofNat 255) :: st) H) ∧
  (∀ ls st H, aGo cl none cd_131 0 68 ls st H = aBinL (fun st => aGo cl none cd_131 0 69 ls st H) (fun x y => x &&& y) st) ∧
  (∀ ls st H, aGo cl none cd_131 0 69 ls st H = aL2i (fun st => aGo cl none cd_131 0 70 ls st H) st) ∧
  (∀ ls st H, aGo cl none cd_131 0 70 ls st H = aIast (fun st H => aGo cl none cd_131 0 71 ls st H) H st) ∧
  (∀ ls st H, aGo cl none cd_131 0 71 ls st H = aRLoad (fun st => aGo cl none cd_131 0 72 ls st H) ls 0 st) ∧
  (∀ ls st H, aGo cl none cd_131 0 72 ls st H = aGet (fun st => aGo cl none cd_131 0 75 ls st H) 8 0 H st) ∧
  (∀ ls st H, aGo cl none cd_131 0 75 ls st H = aGo cl none cd_131 0 76 ls (.int 5 :: st) H) ∧
  (∀ ls st H, aGo cl none cd_131 0 76 ls st H = aDup2 (fun st => aGo cl none cd_131 0 77 ls st H) st) ∧
  (∀ ls st H, aGo cl none cd_131 0 77 ls st H = aIald (fun st => aGo cl none cd_131 0 78 ls st H) none H st) ∧
  (∀ ls st H, aGo cl none cd_131 0 78 ls st H = aGo cl none cd_131 0 79 ls (.int 1 :: st) H) ∧
  (∀ ls st H, aGo cl none cd_131 0 79 ls st H = aBin (fun st => aGo cl none cd_131 0 80 ls st H) (fun x y => x + y) st) ∧
  (∀ ls st H, aGo cl none cd_131 0 80 ls st H = aIast (fun st H => aGo cl none cd_131 0 81 ls st H) H st) ∧
  (∀ ls st H, aGo cl none cd_131 0 81 ls st H = aInc (fun ls => aGo cl none cd_131 0 84 ls st H) ls 4 1) ∧
  (∀ ls st H, aGo cl none cd_131 0 84 ls st H = aGo cl none cd_131 0 38 ls st H) ∧
  (∀ ls st H, aGo cl none cd_131 0 87 ls st H = aRLoad (fun st => aGo cl none cd_131 0 88 ls st H) ls 0 st) ∧
  (∀ ls st H, aGo cl none cd_131 0 88 ls st H = aGet (fun st => aGo cl none cd_131 0 91 ls st H) 8 0 H st) ∧
  (∀ ls st H, aGo cl none cd_131 0 91 ls st H = aGo cl none cd_131 0 92 ls (.int 5 :: st) H) ∧
  (∀ ls st H, aGo cl none cd_131 0 92 ls st H = aIald (fun st => aGo cl none cd_131 0 93 ls st H) none H st) ∧
  (∀ ls st H, aGo cl none cd_131 0 93 ls st H = aIret 0 st H) :=
  ⟨fun _ _ _ => (aGo_s rfl).trans rfl, fun _ _ _ => (aGo_s rfl).trans rfl, fun _ _ _ => (aGo_s rfl).trans rfl, fun _ _ _ => (aGo_s rfl).trans rfl, fun _ _ _ => (aGo_s rfl).trans rfl, fun _ _ _ => (aGo_s rfl).trans rfl, fun _ _ _ => (aGo_s rfl).trans rfl, fun _ _ _ => (aGo_s rfl).trans rfl, fun _ _ _ => (aGo_s rfl).trans rfl, fun _ _ _ => (aGo_s rfl).trans rfl, fun _ _ _ => (aGo_s rfl).trans rfl, fun _ _ _ => (aGo_s rfl).trans rfl, fun _ _ _ => (aGo_s rfl).trans rfl, fun _ _ _ => (aGo_s rfl).trans rfl, fun _ _ _ => (aGo_s rfl).trans rfl, fun _ _ _ => (aGo_s rfl).trans rfl, fun _ _ _ => (aGo_s rfl).trans rfl, fun _ _ _ => (aGo_s rfl).trans rfl, fun _ _ _ => (aGo_s rfl).trans rfl, fun _ _ _ => (aGo_s rfl).trans rfl, fun _ _ _ => (aGo_s rfl).trans rfl, fun _ _ _ => (aGo_s rfl).trans rfl, fun _ _ _ => (aGo_s rfl).trans rfl, fun _ _ _ => (aGo_s rfl).trans rfl, fun _ _ _ => (aGo_s rfl).trans rfl, fun _ _ _ => (aGo_s rfl).trans rfl, fun _ _ _ => (aGo_s rfl).trans rfl, fun _ _ _ => (aGo_s rfl).trans rfl, fun _ _ _ => (aGo_s rfl).trans rfl, fun _ _ _ => (aGo_s rfl).trans rfl, fun _ _ _ => (aGo_s rfl).trans rfl, fun _ _ _ => (aGo_s rfl).trans rfl, fun _ _ _ => (aGo_s rfl).trans rfl, fun _ _ _ => (aGo_s rfl).trans rfl, fun _ _ _ => (aGo_s rfl).trans rfl, fun _ _ _ => (aGo_s rfl).trans rfl, fun _ _ _ => (aGo_s rfl).trans rfl, fun _ _ _ => (aGo_s rfl).trans rfl, fun _ _ _ => (aGo_s rfl).trans rfl, fun _ _ _ => (aGo_s rfl).trans rfl, fun _ _ _ => (aGo_s rfl).trans rfl, fun _ _ _ => (aGo_s rfl).trans rfl, fun _ _ _ => (aGo_s rfl).trans rfl, fun _ _ _ => (aGo_s rfl).trans rfl, fun _ _ _ => (aGo_s rfl).trans rfl, fun _ _ _ => (aGo_s rfl).trans rfl, fun _ _ _ => (aGo_s rfl).trans rfl, fun _ _ _ => (aGo_s rfl).trans rfl, fun _ _ _ => (aGo_s rfl).trans rfl, fun _ _ _ => (aGo_s rfl).trans rfl, fun _ _ _ => (aGo_s rfl).trans rfl, fun _ _ _ => (aGo_s rfl).trans rfl, fun _ _ _ => (aGo_s rfl).trans rfl, fun _ _ _ => (aGo_s rfl).trans rfl, fun _ _ _ => (aGo_s rfl).trans rfl, fun _ _ _ => (aGo_s rfl).trans rfl, fun _ _ _ => (aGo_s rfl).trans rfl⟩
theorem s_131_38 {cl : Nat → List Value → aH → aRs} : ∀ ls st H, aGo cl none cd_131 0 38 ls st H = aILoad (fun st => aGo cl none cd_131 0 40 ls st H) ls 4 st := fun _ _ _ => (aGo_s rfl).trans rfl
theorem e_131 {d : Nat} {x0 : Nat} {x1 : Int64} {x2 : Int32} {H : aH} : aCall aMt (d + 1) 131 [.ref x0, .long x1, .int x2] H = aGo (aCall aMt d) none cd_131 0 0 [some (.ref x0), some (.long x1), none, some (.int x2), none] [] H := (c_0 rfl ⟨rfl, Nat.le_of_ble_eq_true rfl, Nat.le_of_ble_eq_true rfl⟩).trans rfl
theorem s_132 {cl : Nat → List Value → aH → aRs} : (∀ ls st H, aGo cl none cd_132 0 0 ls st H = aRLoad (fun st => aGo cl none cd_132 0 1 ls st H) ls 0 st) ∧
  (∀ ls st H, aGo cl none cd_132 0 1 ls st H = aGet (fun st => aGo cl none cd_132 0 4 ls st H) 8 5 H st) ∧
  (∀ ls st H, aGo cl none cd_132 0 4 ls st H = aRLoad (fun st => aGo cl none cd_132 0 5 ls st H) ls 0 st) ∧
  (∀ ls st H, aGo cl none cd_132 0 5 ls st H = aGet (fun st => aGo cl none cd_132 0 8 ls st H) 8 0 H st) ∧
  (∀ ls st H, aGo cl none cd_132 0 8 ls st H = aGo cl none cd_132 0 9 ls (.int 5 :: st) H) ∧
  (∀ ls st H, aGo cl none cd_132 0 9 ls st H = aIald (fun st => aGo cl none cd_132 0 10 ls st H) none H st) ∧
  (∀ ls st H, aGo cl none cd_132 0 10 ls st H = aIc (fun p st => aGo cl none cd_132 0 p ls st H) .ge 29 13 st) ∧
  (∀ ls st H, aGo cl none cd_132 0 13 ls st H = aRLoad (fun st => aGo cl none cd_132 0 14 ls st H) ls 0 st) ∧
  (∀ ls st H, aGo cl none cd_132 0 14 ls st H = aGet (fun st => aGo cl none cd_132 0 17 ls st H) 8 0 H st) ∧
  (∀ ls st H, aGo cl none cd_132 0 17 ls st H = aGo cl none cd_132 0 20 ls (.int 370 :: st) H) ∧
  (∀ ls st H, aGo cl none cd_132 0 20 ls st H = aRLoad (fun st => aGo cl none cd_132 0 21 ls st H) ls 0 st) ∧
  (∀ ls st H, aGo cl none cd_132 0 21 ls st H = aGet (fun st => aGo cl none cd_132 0 24 ls st H) 8 5 H st) ∧
  (∀ ls st H, aGo cl none cd_132 0 24 ls st H = aBin (fun st => aGo cl none cd_132 0 25 ls st H) (fun x y => x + y) st) ∧
  (∀ ls st H, aGo cl none cd_132 0 25 ls st H = aIald (fun st => aGo cl none cd_132 0 26 ls st H) none H st) ∧
  (∀ ls st H, aGo cl none cd_132 0 26 ls st H = aGo cl none cd_132 0 30 ls st H) ∧
  (∀ ls st H, aGo cl none cd_132 0 29 ls st H = aGo cl none cd_132 0 30 ls (.int (-1) :: st) H) ∧
  (∀ ls st H, aGo cl none cd_132 0 30 ls st H = aIret 0 st H) :=
  ⟨fun _ _ _ => (aGo_s rfl).trans rfl, fun _ _ _ => (aGo_s rfl).trans rfl, fun _ _ _ => (aGo_s rfl).trans rfl, fun _ _ _ => (aGo_s rfl).trans rfl, fun _ _ _ => (aGo_s rfl).trans rfl, fun _ _ _ => (aGo_s rfl).trans rfl, fun _ _ _ => (aGo_s rfl).trans rfl, fun _ _ _ => (aGo_s rfl).trans rfl, fun _ _ _ => (aGo_s rfl).trans rfl, fun _ _ _ => (aGo_s rfl).trans rfl, fun _ _ _ => (aGo_s rfl).trans rfl, fun _ _ _ => (aGo_s rfl).trans rfl, fun _ _ _ => (aGo_s rfl).trans rfl, fun _ _ _ => (aGo_s rfl).trans rfl, fun _ _ _ => (aGo_s rfl).trans rfl, fun _ _ _ => (aGo_s rfl).trans rfl, fun _ _ _ => (aGo_s rfl).trans rfl⟩
theorem e_132 {d : Nat} {x0 : Nat} {H : aH} : aCall aMt (d + 1) 132 [.ref x0] H = aGo (aCall aMt d) none cd_132 0 0 [some (.ref x0)] [] H := (c_0 rfl ⟨rfl, Nat.le_of_ble_eq_true rfl, Nat.le_of_ble_eq_true rfl⟩).trans rfl
theorem s_133 {cl : Nat → List Value → aH → aRs} : (∀ ls st H, aGo cl none cd_133 1 0 ls st H = aILoad (fun st => aGo cl none cd_133 1 1 ls st H) ls 1 st) ∧
  (∀ ls st H, aGo cl none cd_133 1 1 ls st H = aGo cl none cd_133 1 3 ls (.int 108 :: st) H) ∧
  (∀ ls st H, aGo cl none cd_133 1 3 ls st H = aIc (fun p st => aGo cl none cd_133 1 p ls st H) .eq 12 6 st) ∧
  (∀ ls st H, aGo cl none cd_133 1 6 ls st H = aILoad (fun st => aGo cl none cd_133 1 7 ls st H) ls 1 st) ∧
  (∀ ls st H, aGo cl none cd_133 1 7 ls st H = aGo cl none cd_133 1 9 ls (.int 111 :: st) H) ∧
  (∀ ls st H, aGo cl none cd_133 1 9 ls st H = aIc (fun p st => aGo cl none cd_133 1 p ls st H) .ne 14 12 st) ∧
  (∀ ls st H, aGo cl none cd_133 1 12 ls st H = aGo cl none cd_133 1 13 ls (.int 1 :: st) H) ∧
  (∀ ls st H, aGo cl none cd_133 1 13 ls st H = aIret 1 st H) ∧
  (∀ ls st H, aGo cl none cd_133 1 14 ls st H = aRLoad (fun st => aGo cl none cd_133 1 15 ls st H) ls 0 st) ∧
  (∀ ls st H, aGo cl none cd_133 1 15 ls st H = aGet (fun st => aGo cl none cd_133 1 18 ls st H) 8 8 H st) ∧
  (∀ ls st H, aGo cl none cd_133 1 18 ls st H = aIf (fun p st => aGo cl none cd_133 1 p ls st H) .ne 35 21 st) ∧
  (∀ ls st H, aGo cl none cd_133 1 21 ls st H = aILoad (fun st => aGo cl none cd_133 1 22 ls st H) ls 1 st) ∧
  (∀ ls st H, aGo cl none cd_133 1 22 ls st H = aGo cl none cd_133 1 24 ls (.int 97 :: st) H) ∧
  (∀ ls st H, aGo cl none cd_133 1 24 ls st H = aIc (fun p st => aGo cl none cd_133 1 p ls st H) .ne 31 27 st) ∧
  (∀ ls st H, aGo cl none cd_133 1 27 ls st H = aGo cl none cd_133 1 28 ls (.int 1 :: st) H) ∧
  (∀ ls st H, aGo cl none cd_133 1 28 ls st H = aGo cl none cd_133 1 46 ls st H) ∧
  (∀ ls st H, aGo cl none cd_133 1 31 ls st H = aGo cl none cd_133 1 32 ls (.int 0 :: st) H) ∧
  (∀ ls st H, aGo cl none cd_133 1 32 ls st H = aGo cl none cd_133 1 46 ls st H) ∧
  (∀ ls st H, aGo cl none cd_133 1 35 ls st H = aILoad (fun st => aGo cl none cd_133 1 36 ls st H) ls 1 st) ∧
  (∀ ls st H, aGo cl none cd_133 1 36 ls st H = aGo cl none cd_133 1 38 ls (.int 115 :: st) H) ∧
  (∀ ls st H, aGo cl none cd_133 1 38 ls st H = aIc (fun p st => aGo cl none cd_133 1 p ls st H) .ne 45 41 st) ∧
  (∀ ls st H, aGo cl none cd_133 1 41 ls st H = aGo cl none cd_133 1 42 ls (.int 1 :: st) H) ∧
  (∀ ls st H, aGo cl none cd_133 1 42 ls st H = aGo cl none cd_133 1 46 ls st H) ∧
  (∀ ls st H, aGo cl none cd_133 1 45 ls st H = aGo cl none cd_133 1 46 ls (.int 0 :: st) H) ∧
  (∀ ls st H, aGo cl none cd_133 1 46 ls st H = aIret 1 st H) :=
  ⟨fun _ _ _ => (aGo_s rfl).trans rfl, fun _ _ _ => (aGo_s rfl).trans rfl, fun _ _ _ => (aGo_s rfl).trans rfl, fun _ _ _ => (aGo_s rfl).trans rfl, fun _ _ _ => (aGo_s rfl).trans rfl, fun _ _ _ => (aGo_s rfl).trans rfl, fun _ _ _ => (aGo_s rfl).trans rfl, fun _ _ _ => (aGo_s rfl).trans rfl, fun _ _ _ => (aGo_s rfl).trans rfl, fun _ _ _ => (aGo_s rfl).trans rfl, fun _ _ _ => (aGo_s rfl).trans rfl, fun _ _ _ => (aGo_s rfl).trans rfl, fun _ _ _ => (aGo_s rfl).trans rfl, fun _ _ _ => (aGo_s rfl).trans rfl, fun _ _ _ => (aGo_s rfl).trans rfl, fun _ _ _ => (aGo_s rfl).trans rfl, fun _ _ _ => (aGo_s rfl).trans rfl, fun _ _ _ => (aGo_s rfl).trans rfl, fun _ _ _ => (aGo_s rfl).trans rfl, fun _ _ _ => (aGo_s rfl).trans rfl, fun _ _ _ => (aGo_s rfl).trans rfl, fun _ _ _ => (aGo_s rfl).trans rfl, fun _ _ _ => (aGo_s rfl).trans rfl, fun _ _ _ => (aGo_s rfl).trans rfl, fun _ _ _ => (aGo_s rfl).trans rfl⟩
theorem e_133 {d : Nat} {x0 : Nat} {x1 : Int32} {H : aH} : aCall aMt (d + 1) 133 [.ref x0, .int x1] H = aGo (aCall aMt d) none cd_133 1 0 [some (.ref x0), some (.int x1)] [] H := (c_0 rfl ⟨rfl, Nat.le_of_ble_eq_true rfl, Nat.le_of_ble_eq_true rfl⟩).trans rfl
theorem s_134 {cl : Nat → List Value → aH → aRs} : (∀ ls st H, aGo cl none cd_134 3 0 ls st H = aRLoad (fun st => aGo cl none cd_134 3 1 ls st H) ls 0 st) ∧
  (∀ ls st H, aGo cl none cd_134 3 1 ls st H = aGet (fun st => aGo cl none cd_134 3 4 ls st H) 8 9 H st) ∧
  (∀ ls st H, aGo cl none cd_134 3 4 ls st H = aGo cl none cd_134 3 5 ls (.int 2 :: st) H) ∧
  (∀ ls st H, aGo cl none cd_134 3 5 ls st H = aRLoad (fun st => aGo cl none cd_134 3 6 ls st H) ls 0 st) ∧
  (∀ ls st H, aGo cl none cd_134 3 6 ls st H = aGet (fun st => aGo cl none cd_134 3 9 ls st H) 8 7 H st) ∧
  (∀ ls st H, aGo cl none cd_134 3 9 ls st H = aBin (fun st => aGo cl none cd_134 3 10 ls st H) (fun x y => x * y) st) ∧
  (∀ ls st H, aGo cl none cd_134 3 10 ls st H = aILoad (fun st => aGo cl none cd_134 3 11 ls st H) ls 1 st) ∧
  (∀ ls st H, aGo cl none cd_134 3 11 ls st H = aIast (fun st H => aGo cl none cd_134 3 12 ls st H) H st) ∧
  (∀ ls st H, aGo cl none cd_134 3 12 ls st H = aRLoad (fun st => aGo cl none cd_134 3 13 ls st H) ls 0 st) ∧
  (∀ ls st H, aGo cl none cd_134 3 13 ls st H = aGet (fun st => aGo cl none cd_134 3 16 ls st H) 8 9 H st) ∧
  (∀ ls st H, aGo cl none cd_134 3 16 ls st H = aGo cl none cd_134 3 17 ls (.int 2 :: st) H) ∧
  (∀ ls st H, aGo cl none cd_134 3 17 ls st H = aRLoad (fun st => aGo cl none cd_134 3 18 ls st H) ls 0 st) ∧
  (∀ ls st H, aGo cl none cd_134 3 18 ls st H = aGet (fun st => aGo cl none cd_134 3 21 ls st H) 8 7 H st) ∧
  (∀ ls st H, aGo cl none cd_134 3 21 ls st H = aBin (fun st => aGo cl none cd_134 3 22 ls st H) (fun x y => x * y) st) ∧
  (∀ ls st H, aGo cl none cd_134 3 22 ls st H = aGo cl none cd_134 3 23 ls (.int 1 :: st) H) ∧
  (∀ ls st H, aGo cl none cd_134 3 23 ls st H = aBin (fun st => aGo cl none cd_134 3 24 ls st H) (fun x y => x + y) st) ∧
  (∀ ls st H, aGo cl none cd_134 3 24 ls st H = aILoad (fun st => aGo cl none cd_134 3 25 ls st H) ls 2 st) ∧
  (∀ ls st H, aGo cl none cd_134 3 25 ls st H = aIast (fun st H => aGo cl none cd_134 3 26 ls st H) H st) ∧
  (∀ ls st H, aGo cl none cd_134 3 26 ls st H = aRLoad (fun st => aGo cl none cd_134 3 27 ls st H) ls 0 st) ∧
  (∀ ls st H, aGo cl none cd_134 3 27 ls st H = aDup (fun st => aGo cl none cd_134 3 28 ls st H) st) ∧
  (∀ ls st H, aGo cl none cd_134 3 28 ls st H = aGet (fun st => aGo cl none cd_134 3 31 ls st H) 8 7 H st) ∧
  (∀ ls st H, aGo cl none cd_134 3 31 ls st H = aGo cl none cd_134 3 32 ls (.int 1 :: st) H) ∧
  (∀ ls st H, aGo cl none cd_134 3 32 ls st H = aBin (fun st => aGo cl none cd_134 3 33 ls st H) (fun x y => x + y) st) ∧
  (∀ ls st H, aGo cl none cd_134 3 33 ls st H = aPut (fun st H => aGo cl none cd_134 3 36 ls st H) 8 7 H st) ∧
  (∀ ls st H, aGo cl none cd_134 3 36 ls st H = aVret 3 st H) :=
  ⟨fun _ _ _ => (aGo_s rfl).trans rfl, fun _ _ _ => (aGo_s rfl).trans rfl, fun _ _ _ => (aGo_s rfl).trans rfl, fun _ _ _ => (aGo_s rfl).trans rfl, fun _ _ _ => (aGo_s rfl).trans rfl, fun _ _ _ => (aGo_s rfl).trans rfl, fun _ _ _ => (aGo_s rfl).trans rfl, fun _ _ _ => (aGo_s rfl).trans rfl, fun _ _ _ => (aGo_s rfl).trans rfl, fun _ _ _ => (aGo_s rfl).trans rfl, fun _ _ _ => (aGo_s rfl).trans rfl, fun _ _ _ => (aGo_s rfl).trans rfl, fun _ _ _ => (aGo_s rfl).trans rfl, fun _ _ _ => (aGo_s rfl).trans rfl, fun _ _ _ => (aGo_s rfl).trans rfl, fun _ _ _ => (aGo_s rfl).trans rfl, fun _ _ _ => (aGo_s rfl).trans rfl, fun _ _ _ => (aGo_s rfl).trans rfl, fun _ _ _ => (aGo_s rfl).trans rfl, fun _ _ _ => (aGo_s rfl).trans rfl, fun _ _ _ => (aGo_s rfl).trans rfl, fun _ _ _ => (aGo_s rfl).trans rfl, fun _ _ _ => (aGo_s rfl).trans rfl, fun _ _ _ => (aGo_s rfl).trans rfl, fun _ _ _ => (aGo_s rfl).trans rfl⟩
theorem e_134 {d : Nat} {x0 : Nat} {x1 : Int32} {x2 : Int32} {H : aH} : aCall aMt (d + 1) 134 [.ref x0, .int x1, .int x2] H = aGo (aCall aMt d) none cd_134 3 0 [some (.ref x0), some (.int x1), some (.int x2)] [] H := (c_0 rfl ⟨rfl, Nat.le_of_ble_eq_true rfl, Nat.le_of_ble_eq_true rfl⟩).trans rfl
theorem s_135 {cl : Nat → List Value → aH → aRs} : (∀ ls st H, aGo cl none cd_135 1 0 ls st H = aRLoad (fun st => aGo cl none cd_135 1 1 ls st H) ls 0 st) ∧
  (∀ ls st H, aGo cl none cd_135 1 1 ls st H = aCallV (fun st H => aGo cl none cd_135 1 4 ls st H) cl 136 0 8 H st) ∧
  (∀ ls st H, aGo cl none cd_135 1 4 ls st H = aIf (fun p st => aGo cl none cd_135 1 p ls st H) .ne 9 7 st) ∧
  (∀ ls st H, aGo cl none cd_135 1 7 ls st H = aGo cl none cd_135 1 8 ls (.int 0 :: st) H) ∧
  (∀ ls st H, aGo cl none cd_135 1 8 ls st H = aIret 1 st H) ∧
  (∀ ls st H, aGo cl none cd_135 1 10 ls st H = aCallV (fun st H => aGo cl none cd_135 1 13 ls st H) cl 132 0 8 H st) ∧
  (∀ ls st H, aGo cl none cd_135 1 13 ls st H = aGo cl none cd_135 1 15 ls (.int 124 :: st) H) ∧
  (∀ ls st H, aGo cl none cd_135 1 15 ls st H = aIc (fun p st => aGo cl none cd_135 1 p ls st H) .ne 47 18 st) ∧
  (∀ ls st H, aGo cl none cd_135 1 18 ls st H = aRLoad (fun st => aGo cl none cd_135 1 19 ls st H) ls 0 st) ∧
  (∀ ls st H, aGo cl none cd_135 1 19 ls st H = aDup (fun st => aGo cl none cd_135 1 20 ls st H) st) ∧
  (∀ ls st H, aGo cl none cd_135 1 20 ls st H = aGet (fun st => aGo cl none cd_135 1 23 ls st H) 8 5 H st) ∧
  (∀ ls st H, aGo cl none cd_135 1 23 ls st H = aGo cl none cd_135 1 24 ls (.int 1 :: st) H) ∧
  (∀ ls st H, aGo cl none cd_135 1 24 ls st H = aBin (fun st => aGo cl none cd_135 1 25 ls st H) (fun x y => x + y) st) ∧
  (∀ ls st H, aGo cl none cd_135 1 25 ls st H = aPut (fun st H => aGo cl none cd_135 1 28 ls st H) 8 5 H st) ∧
  (∀ ls st H, aGo cl none cd_135 1 28 ls st H = aRLoad (fun st => aGo cl none cd_135 1 29 ls st H) ls 0 st) ∧
  (∀ ls st H, aGo cl none cd_135 1 29 ls st H = aCallV (fun st H => aGo cl none cd_135 1 32 ls st H) cl 136 0 8 H st) ∧
  (∀ ls st H, aGo cl none cd_135 1 32 ls st H = aIf (fun p st => aGo cl none cd_135 1 p ls st H) .ne 37 35 st) ∧
  (∀ ls st H, aGo cl none cd_135 1 35 ls st H = aGo cl none cd_135 1 36 ls (.int 0 :: st) H) ∧
  (∀ ls st H, aGo cl none cd_135 1 36 ls st H = aIret 1 st H) ∧
  (∀ ls st H, aGo cl none cd_135 1 37 ls st H = aRLoad (fun st => aGo cl none cd_135 1 38 ls st H) ls 0 st) ∧
  (∀ ls st H, aGo cl none cd_135 1 38 ls st H = aGo cl none cd_135 1 39 ls (.int 3 :: st) H) ∧
  (∀ ls st H, aGo cl none cd_135 1 39 ls st H = aGo cl none cd_135 1 41 ls (.int 124 :: st) H) ∧
  (∀ ls st H, aGo cl none cd_135 1 41 ls st H = aCallV (fun st H => aGo cl none cd_135 1 44 ls st H) cl 134 2 8 H st) ∧
  (∀ ls st H, aGo cl none cd_135 1 44 ls st H = aGo cl none cd_135 1 9 ls st H) ∧
  (∀ ls st H, aGo cl none cd_135 1 47 ls st H = aGo cl none cd_135 1 48 ls (.int 1 :: st) H) ∧
  (∀ ls st H, aGo cl none cd_135 1 48 ls st H = aIret 1 st H) :=
  ⟨fun _ _ _ => (aGo_s rfl).trans rfl, fun _ _ _ => (aGo_s rfl).trans rfl, fun _ _ _ => (aGo_s rfl).trans rfl, fun _ _ _ => (aGo_s rfl).trans rfl, fun _ _ _ => (aGo_s rfl).trans rfl, fun _ _ _ => (aGo_s rfl).trans rfl, fun _ _ _ => (aGo_s rfl).trans rfl, fun _ _ _ => (aGo_s rfl).trans rfl, fun _ _ _ => (aGo_s rfl).trans rfl, fun _ _ _ => (aGo_s rfl).trans rfl, fun _ _ _ => (aGo_s rfl).trans rfl, fun _ _ _ => (aGo_s rfl).trans rfl, fun _ _ _ => (aGo_s rfl).trans rfl, fun _ _ _ => (aGo_s rfl).trans rfl, fun _ _ _ => (aGo_s rfl).trans rfl, fun _ _ _ => (aGo_s rfl).trans rfl, fun _ _ _ => (aGo_s rfl).trans rfl, fun _ _ _ => (aGo_s rfl).trans rfl, fun _ _ _ => (aGo_s rfl).trans rfl, fun _ _ _ => (aGo_s rfl).trans rfl, fun _ _ _ => (aGo_s rfl).trans rfl, fun _ _ _ => (aGo_s rfl).trans rfl, fun _ _ _ => (aGo_s rfl).trans rfl, fun _ _ _ => (aGo_s rfl).trans rfl, fun _ _ _ => (aGo_s rfl).trans rfl, fun _ _ _ => (aGo_s rfl).trans rfl⟩
theorem s_135_9 {cl : Nat → List Value → aH → aRs} : ∀ ls st H, aGo cl none cd_135 1 9 ls st H = aRLoad (fun st => aGo cl none cd_135 1 10 ls st H) ls 0 st := fun _ _ _ => (aGo_s rfl).trans rfl
theorem e_135 {d : Nat} {x0 : Nat} {H : aH} : aCall aMt (d + 1) 135 [.ref x0] H = aGo (aCall aMt d) none cd_135 1 0 [some (.ref x0)] [] H := (c_0 rfl ⟨rfl, Nat.le_of_ble_eq_true rfl, Nat.le_of_ble_eq_true rfl⟩).trans rfl
theorem s_136 {cl : Nat → List Value → aH → aRs} : (∀ ls st H, aGo cl none cd_136 1 0 ls st H = aRLoad (fun st => aGo cl none cd_136 1 1 ls st H) ls 0 st) ∧
  (∀ ls st H, aGo cl none cd_136 1 1 ls st H = aCallV (fun st H => aGo cl none cd_136 1 4 ls st H) cl 137 0 8 H st) ∧
  (∀ ls st H, aGo cl none cd_136 1 4 ls st H = aIf (fun p st => aGo cl none cd_136 1 p ls st H) .ne 9 7 st) ∧
  (∀ ls st H, aGo cl none cd_136 1 7 ls st H = aGo cl none cd_136 1 8 ls (.int 0 :: st) H) ∧
  (∀ ls st H, aGo cl none cd_136 1 8 ls st H = aIret 1 st H) ∧
  (∀ ls st H, aGo cl none cd_136 1 10 ls st H = aCallV (fun st H => aGo cl none cd_136 1 13 ls st H) cl 132 0 8 H st) ∧
  (∀ ls st H, aGo cl none cd_136 1 13 ls st H = aGo cl none cd_136 1 15 ls (.int 38 :: st) H) ∧
  (∀ ls st H, aGo cl none cd_136 1 15 ls st H = aIc (fun p st => aGo cl none cd_136 1 p ls st H) .ne 47 18 st) ∧
  (∀ ls st H, aGo cl none cd_136 1 18 ls st H = aRLoad (fun st => aGo cl none cd_136 1 19 ls st H) ls 0 st) ∧
  (∀ ls st H, aGo cl none cd_136 1 19 ls st H = aDup (fun st => aGo cl none cd_136 1 20 ls st H) st) ∧
  (∀ ls st H, aGo cl none cd_136 1 20 ls st H = aGet (fun st => aGo cl none cd_136 1 23 ls st H) 8 5 H st) ∧
  (∀ ls st H, aGo cl none cd_136 1 23 ls st H = aGo cl none cd_136 1 24 ls (.int 1 :: st) H) ∧
  (∀ ls st H, aGo cl none cd_136 1 24 ls st H = aBin (fun st => aGo cl none cd_136 1 25 ls st H) (fun x y => x + y) st) ∧
  (∀ ls st H, aGo cl none cd_136 1 25 ls st H = aPut (fun st H => aGo cl none cd_136 1 28 ls st H) 8 5 H st) ∧
  (∀ ls st H, aGo cl none cd_136 1 28 ls st H = aRLoad (fun st => aGo cl none cd_136 1 29 ls st H) ls 0 st) ∧
  (∀ ls st H, aGo cl none cd_136 1 29 ls st H = aCallV (fun st H => aGo cl none cd_136 1 32 ls st H) cl 137 0 8 H st) ∧
  (∀ ls st H, aGo cl none cd_136 1 32 ls st H = aIf (fun p st => aGo cl none cd_136 1 p ls st H) .ne 37 35 st) ∧
  (∀ ls st H, aGo cl none cd_136 1 35 ls st H = aGo cl none cd_136 1 36 ls (.int 0 :: st) H) ∧
  (∀ ls st H, aGo cl none cd_136 1 36 ls st H = aIret 1 st H) ∧
  (∀ ls st H, aGo cl none cd_136 1 37 ls st H = aRLoad (fun st => aGo cl none cd_136 1 38 ls st H) ls 0 st) ∧
  (∀ ls st H, aGo cl none cd_136 1 38 ls st H = aGo cl none cd_136 1 39 ls (.int 3 :: st) H) ∧
  (∀ ls st H, aGo cl none cd_136 1 39 ls st H = aGo cl none cd_136 1 41 ls (.int 38 :: st) H) ∧
  (∀ ls st H, aGo cl none cd_136 1 41 ls st H = aCallV (fun st H => aGo cl none cd_136 1 44 ls st H) cl 134 2 8 H st) ∧
  (∀ ls st H, aGo cl none cd_136 1 44 ls st H = aGo cl none cd_136 1 9 ls st H) ∧
  (∀ ls st H, aGo cl none cd_136 1 47 ls st H = aGo cl none cd_136 1 48 ls (.int 1 :: st) H) ∧
  (∀ ls st H, aGo cl none cd_136 1 48 ls st H = aIret 1 st H) :=
  ⟨fun _ _ _ => (aGo_s rfl).trans rfl, fun _ _ _ => (aGo_s rfl).trans rfl, fun _ _ _ => (aGo_s rfl).trans rfl, fun _ _ _ => (aGo_s rfl).trans rfl, fun _ _ _ => (aGo_s rfl).trans rfl, fun _ _ _ => (aGo_s rfl).trans rfl, fun _ _ _ => (aGo_s rfl).trans rfl, fun _ _ _ => (aGo_s rfl).trans rfl, fun _ _ _ => (aGo_s rfl).trans rfl, fun _ _ _ => (aGo_s rfl).trans rfl, fun _ _ _ => (aGo_s rfl).trans rfl, fun _ _ _ => (aGo_s rfl).trans rfl, fun _ _ _ => (aGo_s rfl).trans rfl, fun _ _ _ => (aGo_s rfl).trans rfl, fun _ _ _ => (aGo_s rfl).trans rfl, fun _ _ _ => (aGo_s rfl).trans rfl, fun _ _ _ => (aGo_s rfl).trans rfl, fun _ _ _ => (aGo_s rfl).trans rfl, fun _ _ _ => (aGo_s rfl).trans rfl, fun _ _ _ => (aGo_s rfl).trans rfl, fun _ _ _ => (aGo_s rfl).trans rfl, fun _ _ _ => (aGo_s rfl).trans rfl, fun _ _ _ => (aGo_s rfl).trans rfl, fun _ _ _ => (aGo_s rfl).trans rfl, fun _ _ _ => (aGo_s rfl).trans rfl, fun _ _ _ => (aGo_s rfl).trans rfl⟩
theorem s_136_9 {cl : Nat → List Value → aH → aRs} : ∀ ls st H, aGo cl none cd_136 1 9 ls st H = aRLoad (fun st => aGo cl none cd_136 1 10 ls st H) ls 0 st := fun _ _ _ => (aGo_s rfl).trans rfl
theorem e_136 {d : Nat} {x0 : Nat} {H : aH} : aCall aMt (d + 1) 136 [.ref x0] H = aGo (aCall aMt d) none cd_136 1 0 [some (.ref x0)] [] H := (c_0 rfl ⟨rfl, Nat.le_of_ble_eq_true rfl, Nat.le_of_ble_eq_true rfl⟩).trans rfl
theorem s_137 {cl : Nat → List Value → aH → aRs} : (∀ ls st H, aGo cl none cd_137 1 0 ls st H = aRLoad (fun st => aGo cl none cd_137 1 1 ls st H) ls 0 st) ∧
  (∀ ls st H, aGo cl none cd_137 1 1 ls st H = aCallV (fun st H => aGo cl none cd_137 1 4 ls st H) cl 138 0 8 H st) ∧
  (∀ ls st H, aGo cl none cd_137 1 4 ls st H = aIf (fun p st => aGo cl none cd_137 1 p ls st H) .ne 9 7 st) ∧
  (∀ ls st H, aGo cl none cd_137 1 7 ls st H = aGo cl none cd_137 1 8 ls (.int 0 :: st) H) ∧
  (∀ ls st H, aGo cl none cd_137 1 8 ls st H = aIret 1 st H) ∧
  (∀ ls st H, aGo cl none cd_137 1 9 ls st H = aRLoad (fun st => aGo cl none cd_137 1 10 ls st H) ls 0 st) ∧
  (∀ ls st H, aGo cl none cd_137 1 10 ls st H = aCallV (fun st H => aGo cl none cd_137 1 13 ls st H) cl 132 0 8 H st) ∧
  (∀ ls st H, aGo cl none cd_137 1 13 ls st H = aIStore (fun ls st => aGo cl none cd_137 1 14 ls st H) ls 1 st) ∧
  (∀ ls st H, aGo cl none cd_137 1 14 ls st H = aILoad (fun st => aGo cl none cd_137 1 15 ls st H) ls 1 st) ∧
  (∀ ls st H, aGo cl none cd_137 1 15 ls st H = aGo cl none cd_137 1 17 ls (.int 60 :: st) H) ∧
  (∀ ls st H, aGo cl none cd_137 1 17 ls st H = aIc (fun p st => aGo cl none cd_137 1 p ls st H) .eq 34 20 st) ∧
  (∀ ls st H, aGo cl none cd_137 1 20 ls st H = aILoad (fun st => aGo cl none cd_137 1 21 ls st H) ls 1 st) ∧
  (∀ ls st H, aGo cl none cd_137 1 21 ls st H = aGo cl none cd_137 1 23 ls (.int 61 :: st) H) ∧
  (∀ ls st H, aGo cl none cd_137 1 23 ls st H = aIc (fun p st => aGo cl none cd_137 1 p ls st H) .eq 34 26 st) ∧
  (∀ ls st H, aGo cl none cd_137 1 26 ls st H = aILoad (fun st => aGo cl none cd_137 1 27 ls st H) ls 1 st) ∧
  (∀ ls st H, aGo cl none cd_137 1 27 ls st H = aGo cl none cd_137 1 29 ls (.int 62 :: st) H) ∧
  (∀ ls st H, aGo cl none cd_137 1 29 ls st H = aIc (fun p st => aGo cl none cd_137 1 p ls st H) .eq 34 32 st) ∧
  (∀ ls st H, aGo cl none cd_137 1 32 ls st H = aGo cl none cd_137 1 33 ls (.int 1 :: st) H) ∧
  (∀ ls st H, aGo cl none cd_137 1 33 ls st H = aIret 1 st H) ∧
  (∀ ls st H, aGo cl none cd_137 1 34 ls st H = aRLoad (fun st => aGo cl none cd_137 1 35 ls st H) ls 0 st) ∧
  (∀ ls st H, aGo cl none cd_137 1 35 ls st H = aDup (fun st => aGo cl none cd_137 1 36 ls st H) st) ∧
  (∀ ls st H, aGo cl none cd_137 1 36 ls st H = aGet (fun st => aGo cl none cd_137 1 39 ls st H) 8 5 H st) ∧
  (∀ ls st H, aGo cl none cd_137 1 39 ls st H = aGo cl none cd_137 1 40 ls (.int 1 :: st) H) ∧
  (∀ ls st H, aGo cl none cd_137 1 40 ls st H = aBin (fun st => aGo cl none cd_137 1 41 ls st H) (fun x y => x + y) st) ∧
  (∀ ls st H, aGo cl none cd_137 1 41 ls st H = aPut (fun st H => aGo cl none cd_137 1 44 ls st H) 8 5 H st) ∧
  (∀ ls st H, aGo cl none cd_137 1 44 ls st H = aRLoad (fun st => aGo cl none cd_137 1 45 ls st H) ls 0 st) ∧
  (∀ ls st H, aGo cl none cd_137 1 45 ls st H = aCallV (fun st H => aGo cl none cd_137 1 48 ls st H) cl 138 0 8 H st) ∧
  (∀ ls st H, aGo cl none cd_137 1 48 ls st H = aIf (fun p st => aGo cl none cd_137 1 p ls st H) .ne 53 51 st) ∧
  (∀ ls st H, aGo cl none cd_137 1 51 ls st H = aGo cl none cd_137 1 52 ls (.int 0 :: st) H) ∧
  (∀ ls st H, aGo cl none cd_137 1 52 ls st H = aIret 1 st H) ∧
  (∀ ls st H, aGo cl none cd_137 1 53 ls st H = aRLoad (fun st => aGo cl none cd_137 1 54 ls st H) ls 0 st) ∧
  (∀ ls st H, aGo cl none cd_137 1 54 ls st H = aGo cl none cd_137 1 55 ls (.int 3 :: st) H) ∧
  (∀ ls st H, aGo cl none cd_137 1 55 ls st H = aILoad (fun st => aGo cl none cd_137 1 56 ls st H) ls 1 st) ∧
  (∀ ls st H, aGo cl none cd_137 1 56 ls st H = aCallV (fun st H => aGo cl none cd_137 1 59 ls st H) cl 134 2 8 H st) ∧
  (∀ ls st H, aGo cl none cd_137 1 59 ls st H = aGo cl none cd_137 1 60 ls (.int 1 :: st) H) ∧
  (∀ ls st H, aGo cl none cd_137 1 60 ls st H = aIret 1 st H) :=
  ⟨fun _ _ _ => (aGo_s rfl).trans rfl, fun _ _ _ => (aGo_s rfl).trans rfl, fun _ _ _ => (aGo_s rfl).trans rfl, fun _ _ _ => (aGo_s rfl).trans rfl, fun _ _ _ => (aGo_s rfl).trans rfl, fun _ _ _ => (aGo_s rfl).trans rfl, fun _ _ _ => (aGo_s rfl).trans rfl, fun _ _ _ => (aGo_s rfl).trans rfl, fun _ _ _ => (aGo_s rfl).trans rfl, fun _ _ _ => (aGo_s rfl).trans rfl, fun _ _ _ => (aGo_s rfl).trans rfl, fun _ _ _ => (aGo_s rfl).trans rfl, fun _ _ _ => (aGo_s rfl).trans rfl, fun _ _ _ => (aGo_s rfl).trans rfl, fun _ _ _ => (aGo_s rfl).trans rfl, fun _ _ _ => (aGo_s rfl).trans rfl, fun _ _ _ => (aGo_s rfl).trans rfl, fun _ _ _ => (aGo_s rfl).trans rfl, fun _ _ _ => (aGo_s rfl).trans rfl, fun _ _ _ => (aGo_s rfl).trans rfl, fun _ _ _ => (aGo_s rfl).trans rfl, fun _ _ _ => (aGo_s rfl).trans rfl, fun _ _ _ => (aGo_s rfl).trans rfl, fun _ _ _ => (aGo_s rfl).trans rfl, fun _ _ _ => (aGo_s rfl).trans rfl, fun _ _ _ => (aGo_s rfl).trans rfl, fun _ _ _ => (aGo_s rfl).trans rfl, fun _ _ _ => (aGo_s rfl).trans rfl, fun _ _ _ => (aGo_s rfl).trans rfl, fun _ _ _ => (aGo_s rfl).trans rfl, fun _ _ _ => (aGo_s rfl).trans rfl, fun _ _ _ => (aGo_s rfl).trans rfl, fun _ _ _ => (aGo_s rfl).trans rfl, fun _ _ _ => (aGo_s rfl).trans rfl, fun _ _ _ => (aGo_s rfl).trans rfl, fun _ _ _ => (aGo_s rfl).trans rfl⟩
theorem e_137 {d : Nat} {x0 : Nat} {H : aH} : aCall aMt (d + 1) 137 [.ref x0] H = aGo (aCall aMt d) none cd_137 1 0 [some (.ref x0), none] [] H := (c_0 rfl ⟨rfl, Nat.le_of_ble_eq_true rfl, Nat.le_of_ble_eq_true rfl⟩).trans rfl
theorem s_138 {cl : Nat → List Value → aH → aRs} : (∀ ls st H, aGo cl none cd_138 1 0 ls st H = aRLoad (fun st => aGo cl none cd_138 1 1 ls st H) ls 0 st) ∧
  (∀ ls st H, aGo cl none cd_138 1 1 ls st H = aCallV (fun st H => aGo cl none cd_138 1 4 ls st H) cl 139 0 8 H st) ∧
  (∀ ls st H, aGo cl none cd_138 1 4 ls st H = aIf (fun p st => aGo cl none cd_138 1 p ls st H) .ne 9 7 st) ∧
  (∀ ls st H, aGo cl none cd_138 1 7 ls st H = aGo cl none cd_138 1 8 ls (.int 0 :: st) H) ∧
  (∀ ls st H, aGo cl none cd_138 1 8 ls st H = aIret 1 st H) ∧
  (∀ ls st H, aGo cl none cd_138 1 10 ls st H = aCallV (fun st H => aGo cl none cd_138 1 13 ls st H) cl 132 0 8 H st) ∧
  (∀ ls st H, aGo cl none cd_138 1 13 ls st H = aGo cl none cd_138 1 15 ls (.int 43 :: st) H) ∧
  (∀ ls st H, aGo cl none cd_138 1 15 ls st H = aIc (fun p st => aGo cl none cd_138 1 p ls st H) .eq 27 18 st) ∧
  (∀ ls st H, aGo cl none cd_138 1 18 ls st H = aRLoad (fun st => aGo cl none cd_138 1 19 ls st H) ls 0 st) ∧
  (∀ ls st H, aGo cl none cd_138 1 19 ls st H = aCallV (fun st H => aGo cl none cd_138 1 22 ls st H) cl 132 0 8 H st) ∧
  (∀ ls st H, aGo cl none cd_138 1 22 ls st H = aGo cl none cd_138 1 24 ls (.int 45 :: st) H) ∧
  (∀ ls st H, aGo cl none cd_138 1 24 ls st H = aIc (fun p st => aGo cl none cd_138 1 p ls st H) .ne 60 27 st) ∧
  (∀ ls st H, aGo cl none cd_138 1 27 ls st H = aRLoad (fun st => aGo cl none cd_138 1 28 ls st H) ls 0 st) ∧
  (∀ ls st H, aGo cl none cd_138 1 28 ls st H = aCallV (fun st H => aGo cl none cd_138 1 31 ls st H) cl 132 0 8 H st) ∧
  (∀ ls st H, aGo cl none cd_138 1 31 ls st H = aIStore (fun ls st => aGo cl none cd_138 1 32 ls st H) ls 1 st) ∧
  (∀ ls st H, aGo cl none cd_138 1 32 ls st H = aRLoad (fun st => aGo cl none cd_138 1 33 ls st H) ls 0 st) ∧
  (∀ ls st H, aGo cl none cd_138 1 33 ls st H = aDup (fun st => aGo cl none cd_138 1 34 ls st H) st) ∧
  (∀ ls st H, aGo cl none cd_138 1 34 ls st H = aGet (fun st => aGo cl none cd_138 1 37 ls st H) 8 5 H st) ∧
  (∀ ls st H, aGo cl none cd_138 1 37 ls st H = aGo cl none cd_138 1 38 ls (.int 1 :: st) H) ∧
  (∀ ls st H, aGo cl none cd_138 1 38 ls st H = aBin (fun st => aGo cl none cd_138 1 39 ls st H) (fun x y => x + y) st) ∧
  (∀ ls st H, aGo cl none cd_138 1 39 ls st H = aPut (fun st H => aGo cl none cd_138 1 42 ls st H) 8 5 H st) ∧
  (∀ ls st H, aGo cl none cd_138 1 42 ls st H = aRLoad (fun st => aGo cl none cd_138 1 43 ls st H) ls 0 st) ∧
  (∀ ls st H, aGo cl none cd_138 1 43 ls st H = aCallV (fun st H => aGo cl none cd_138 1 46 ls st H) cl 139 0 8 H st) ∧
  (∀ ls st H, aGo cl none cd_138 1 46 ls st H = aIf (fun p st => aGo cl none cd_138 1 p ls st H) .ne 51 49 st) ∧
  (∀ ls st H, aGo cl none cd_138 1 49 ls st H = aGo cl none cd_138 1 50 ls (.int 0 :: st) H) ∧
  (∀ ls st H, aGo cl none cd_138 1 50 ls st H = aIret 1 st H) ∧
  (∀ ls st H, aGo cl none cd_138 1 51 ls st H = aRLoad (fun st => aGo cl none cd_138 1 52 ls st H) ls 0 st) ∧
  (∀ ls st H, aGo cl none cd_138 1 52 ls st H = aGo cl none cd_138 1 53 ls (.int 3 :: st) H) ∧
  (∀ ls st H, aGo cl none cd_138 1 53 ls st H = aILoad (fun st => aGo cl none cd_138 1 54 ls st H) ls 1 st) ∧
  (∀ ls st H, aGo cl none cd_138 1 54 ls st H = aCallV (fun st H => aGo cl none cd_138 1 57 ls st H) cl 134 2 8 H st) ∧
  (∀ ls st H, aGo cl none cd_138 1 57 ls st H = aGo cl none cd_138 1 9 ls st H) ∧
  (∀ ls st H, aGo cl none cd_138 1 60 ls st H = aGo cl none cd_138 1 61 ls (.int 1 :: st) H) ∧
  (∀ ls st H, aGo cl none cd_138 1 61 ls st H = aIret 1 st H) :=
  ⟨fun _ _ _ => (aGo_s rfl).trans rfl, fun _ _ _ => (aGo_s rfl).trans rfl, fun _ _ _ => (aGo_s rfl).trans rfl, fun _ _ _ => (aGo_s rfl).trans rfl, fun _ _ _ => (aGo_s rfl).trans rfl, fun _ _ _ => (aGo_s rfl).trans rfl, fun _ _ _ => (aGo_s rfl).trans rfl, fun _ _ _ => (aGo_s rfl).trans rfl, fun _ _ _ => (aGo_s rfl).trans rfl, fun _ _ _ => (aGo_s rfl).trans rfl, fun _ _ _ => (aGo_s rfl).trans rfl, fun _ _ _ => (aGo_s rfl).trans rfl, fun _ _ _ => (aGo_s rfl).trans rfl, fun _ _ _ => (aGo_s rfl).trans rfl, fun _ _ _ => (aGo_s rfl).trans rfl, fun _ _ _ => (aGo_s rfl).trans rfl, fun _ _ _ => (aGo_s rfl).trans rfl, fun _ _ _ => (aGo_s rfl).trans rfl, fun _ _ _ => (aGo_s rfl).trans rfl, fun _ _ _ => (aGo_s rfl).trans rfl, fun _ _ _ => (aGo_s rfl).trans rfl, fun _ _ _ => (aGo_s rfl).trans rfl, fun _ _ _ => (aGo_s rfl).trans rfl, fun _ _ _ => (aGo_s rfl).trans rfl, fun _ _ _ => (aGo_s rfl).trans rfl, fun _ _ _ => (aGo_s rfl).trans rfl, fun _ _ _ => (aGo_s rfl).trans rfl, fun _ _ _ => (aGo_s rfl).trans rfl, fun _ _ _ => (aGo_s rfl).trans rfl, fun _ _ _ => (aGo_s rfl).trans rfl, fun _ _ _ => (aGo_s rfl).trans rfl, fun _ _ _ => (aGo_s rfl).trans rfl, fun _ _ _ => (aGo_s rfl).trans rfl⟩
theorem s_138_9 {cl : Nat → List Value → aH → aRs} : ∀ ls st H, aGo cl none cd_138 1 9 ls st H = aRLoad (fun st => aGo cl none cd_138 1 10 ls st H) ls 0 st := fun _ _ _ => (aGo_s rfl).trans rfl
theorem e_138 {d : Nat} {x0 : Nat} {H : aH} : aCall aMt (d + 1) 138 [.ref x0] H = aGo (aCall aMt d) none cd_138 1 0 [some (.ref x0), none] [] H := (c_0 rfl ⟨rfl, Nat.le_of_ble_eq_true rfl, Nat.le_of_ble_eq_true rfl⟩).trans rfl
theorem s_139 {cl : Nat → List Value → aH → aRs} : (∀ ls st H, aGo cl none cd_139 1 0 ls st H = aRLoad (fun st => aGo cl none cd_139 1 1 ls st H) ls 0 st) ∧
  (∀ ls st H, aGo cl none cd_139 1 1 ls st H = aCallV (fun st H => aGo cl none cd_139 1 4 ls st H) cl 141 0 8 H st) ∧
  (∀ ls st H, aGo cl none cd_139 1 4 ls st H = aIf (fun p st => aGo cl none cd_139 1 p ls st H) .ne 9 7 st) ∧
  (∀ ls st H, aGo cl none cd_139 1 7 ls st H = aGo cl none cd_139 1 8 ls (.int 0 :: st) H) ∧
  (∀ ls st H, aGo cl none cd_139 1 8 ls st H = aIret 1 st H) ∧
  (∀ ls st H, aGo cl none cd_139 1 10 ls st H = aCallV (fun st H => aGo cl none cd_139 1 13 ls st H) cl 132 0 8 H st) ∧
  (∀ ls st H, aGo cl none cd_139 1 13 ls st H = aGo cl none cd_139 1 15 ls (.int 42 :: st) H) ∧
  (∀ ls st H, aGo cl none cd_139 1 15 ls st H = aIc (fun p st => aGo cl none cd_139 1 p ls st H) .eq 36 18 st) ∧
  (∀ ls st H, aGo cl none cd_139 1 18 ls st H = aRLoad (fun st => aGo cl none cd_139 1 19 ls st H) ls 0 st) ∧
  (∀ ls st H, aGo cl none cd_139 1 19 ls st H = aCallV (fun st H => aGo cl none cd_139 1 22 ls st H) cl 132 0 8 H st) ∧
  (∀ ls st H, aGo cl none cd_139 1 22 ls st H = aGo cl none cd_139 1 24 ls (.int 47 :: st) H) ∧
  (∀ ls st H, aGo cl none cd_139 1 24 ls st H = aIc (fun p st => aGo cl none cd_139 1 p ls st H) .eq 36 27 st) ∧
  (∀ ls st H, aGo cl none cd_139 1 27 ls st H = aRLoad (fun st => aGo cl none cd_139 1 28 ls st H) ls 0 st) ∧
  (∀ ls st H, aGo cl none cd_139 1 28 ls st H = aCallV (fun st H => aGo cl none cd_139 1 31 ls st H) cl 132 0 8 H st) ∧
  (∀ ls st H, aGo cl none cd_139 1 31 ls st H = aGo cl none cd_139 1 33 ls (.int 37 :: st) H) ∧
  (∀ ls st H, aGo cl none cd_139 1 33 ls st H = aIc (fun p st => aGo cl none cd_139 1 p ls st H) .ne 69 36 st) ∧
  (∀ ls st H, aGo cl none cd_139 1 36 ls st H = aRLoad (fun st => aGo cl none cd_139 1 37 ls st H) ls 0 st) ∧
  (∀ ls st H, aGo cl none cd_139 1 37 ls st H = aCallV (fun st H => aGo cl none cd_139 1 40 ls st H) cl 132 0 8 H st) ∧
  (∀ ls st H, aGo cl none cd_139 1 40 ls st H = aIStore (fun ls st => aGo cl none cd_139 1 41 ls st H) ls 1 st) ∧
  (∀ ls st H, aGo cl none cd_139 1 41 ls st H = aRLoad (fun st => aGo cl none cd_139 1 42 ls st H) ls 0 st) ∧
  (∀ ls st H, aGo cl none cd_139 1 42 ls st H = aDup (fun st => aGo cl none cd_139 1 43 ls st H) st) ∧
  (∀ ls st H, aGo cl none cd_139 1 43 ls st H = aGet (fun st => aGo cl none cd_139 1 46 ls st H) 8 5 H st) ∧
  (∀ ls st H, aGo cl none cd_139 1 46 ls st H = aGo cl none cd_139 1 47 ls (.int 1 :: st) H) ∧
  (∀ ls st H, aGo cl none cd_139 1 47 ls st H = aBin (fun st => aGo cl none cd_139 1 48 ls st H) (fun x y => x + y) st) ∧
  (∀ ls st H, aGo cl none cd_139 1 48 ls st H = aPut (fun st H => aGo cl none cd_139 1 51 ls st H) 8 5 H st) ∧
  (∀ ls st H, aGo cl none cd_139 1 51 ls st H = aRLoad (fun st => aGo cl none cd_139 1 52 ls st H) ls 0 st) ∧
  (∀ ls st H, aGo cl none cd_139 1 52 ls st H = aCallV (fun st H => aGo cl none cd_139 1 55 ls st H) cl 141 0 8 H st) ∧
  (∀ ls st H, aGo cl none cd_139 1 55 ls st H = aIf (fun p st => aGo cl none cd_139 1 p ls st H) .ne 60 58 st) ∧
  (∀ ls st H, aGo cl none cd_139 1 58 ls st H = aGo cl none cd_139 1 59 ls (.int 0 :: st) H) ∧
  (∀ ls st H, aGo cl none cd_139 1 59 ls st H = aIret 1 st H) ∧
  (∀ ls st H, aGo cl none cd_139 1 60 ls st H = aRLoad (fun st => aGo cl none cd_139 1 61 ls st H) ls 0 st) ∧
  (∀ ls st H, aGo cl none cd_139 1 61 ls st H = aGo cl none cd_139 1 62 ls (.int 3 :: st) H) ∧
  (∀ ls st H, aGo cl none cd_139 1 62 ls st H = aILoad (fun st => aGo cl none cd_139 1 63 ls st H) ls 1 st) ∧
  (∀ ls st H, aGo cl none cd_139 1 63 ls st H = aCallV (fun st H => aGo cl none cd_139 1 66 ls st H) cl 134 2 8 H st) ∧
  (∀ ls st H, aGo cl none cd_139 1 66 ls st H = aGo cl none cd_139 1 9 ls st H) ∧
  (∀ ls st H, aGo cl none cd_139 1 69 ls st H = aGo cl none cd_139 1 70 ls (.int 1 :: st) H) ∧
  (∀ ls st H, aGo cl none cd_139 1 70 ls st H = aIret 1 st H) :=
  ⟨fun _ _ _ => (aGo_s rfl).trans rfl, fun _ _ _ => (aGo_s rfl).trans rfl, fun _ _ _ => (aGo_s rfl).trans rfl, fun _ _ _ => (aGo_s rfl).trans rfl, fun _ _ _ => (aGo_s rfl).trans rfl, fun _ _ _ => (aGo_s rfl).trans rfl, fun _ _ _ => (aGo_s rfl).trans rfl, fun _ _ _ => (aGo_s rfl).trans rfl, fun _ _ _ => (aGo_s rfl).trans rfl, fun _ _ _ => (aGo_s rfl).trans rfl, fun _ _ _ => (aGo_s rfl).trans rfl, fun _ _ _ => (aGo_s rfl).trans rfl, fun _ _ _ => (aGo_s rfl).trans rfl, fun _ _ _ => (aGo_s rfl).trans rfl, fun _ _ _ => (aGo_s rfl).trans rfl, fun _ _ _ => (aGo_s rfl).trans rfl, fun _ _ _ => (aGo_s rfl).trans rfl, fun _ _ _ => (aGo_s rfl).trans rfl, fun _ _ _ => (aGo_s rfl).trans rfl, fun _ _ _ => (aGo_s rfl).trans rfl, fun _ _ _ => (aGo_s rfl).trans rfl, fun _ _ _ => (aGo_s rfl).trans rfl, fun _ _ _ => (aGo_s rfl).trans rfl, fun _ _ _ => (aGo_s rfl).trans rfl, fun _ _ _ => (aGo_s rfl).trans rfl, fun _ _ _ => (aGo_s rfl).trans rfl, fun _ _ _ => (aGo_s rfl).trans rfl, fun _ _ _ => (aGo_s rfl).trans rfl, fun _ _ _ => (aGo_s rfl).trans rfl, fun _ _ _ => (aGo_s rfl).trans rfl, fun _ _ _ => (aGo_s rfl).trans rfl, fun _ _ _ => (aGo_s rfl).trans rfl, fun _ _ _ => (aGo_s rfl).trans rfl, fun _ _ _ => (aGo_s rfl).trans rfl, fun _ _ _ => (aGo_s rfl).trans rfl, fun _ _ _ => (aGo_s rfl).trans rfl, fun _ _ _ => (aGo_s rfl).trans rfl⟩
theorem s_139_9 {cl : Nat → List Value → aH → aRs} : ∀ ls st H, aGo cl none cd_139 1 9 ls st H = aRLoad (fun st => aGo cl none cd_139 1 10 ls st H) ls 0 st := fun _ _ _ => (aGo_s rfl).trans rfl
theorem e_139 {d : Nat} {x0 : Nat} {H : aH} : aCall aMt (d + 1) 139 [.ref x0] H = aGo (aCall aMt d) none cd_139 1 0 [some (.ref x0), none] [] H := (c_0 rfl ⟨rfl, Nat.le_of_ble_eq_true rfl, Nat.le_of_ble_eq_true rfl⟩).trans rfl
theorem s_140 {cl : Nat → List Value → aH → aRs} : (∀ ls st H, aGo cl none cd_140 1 0 ls st H = aRLoad (fun st => aGo cl none cd_140 1 1 ls st H) ls 0 st) ∧
  (∀ ls st H, aGo cl none cd_140 1 1 ls st H = aGet (fun st => aGo cl none cd_140 1 4 ls st H) 8 6 H st) ∧
  (∀ ls st H, aGo cl none cd_140 1 4 ls st H = aGo cl none cd_140 1 5 ls (.int 5 :: st) H) ∧
  (∀ ls st H, aGo cl none cd_140 1 5 ls st H = aIc (fun p st => aGo cl none cd_140 1 p ls st H) .ne 10 8 st) ∧
  (∀ ls st H, aGo cl none cd_140 1 8 ls st H = aGo cl none cd_140 1 9 ls (.int 0 :: st) H) ∧
  (∀ ls st H, aGo cl none cd_140 1 9 ls st H = aIret 1 st H) ∧
  (∀ ls st H, aGo cl none cd_140 1 10 ls st H = aRLoad (fun st => aGo cl none cd_140 1 11 ls st H) ls 0 st) ∧
  (∀ ls st H, aGo cl none cd_140 1 11 ls st H = aDup (fun st => aGo cl none cd_140 1 12 ls st H) st) ∧
  (∀ ls st H, aGo cl none cd_140 1 12 ls st H = aGet (fun st => aGo cl none cd_140 1 15 ls st H) 8 6 H st) ∧
  (∀ ls st H, aGo cl none cd_140 1 15 ls st H = aGo cl none cd_140 1 16 ls (.int 1 :: st) H) ∧
  (∀ ls st H, aGo cl none cd_140 1 16 ls st H = aBin (fun st => aGo cl none cd_140 1 17 ls st H) (fun x y => x + y) st) ∧
  (∀ ls st H, aGo cl none cd_140 1 17 ls st H = aPut (fun st H => aGo cl none cd_140 1 20 ls st H) 8 6 H st) ∧
  (∀ ls st H, aGo cl none cd_140 1 20 ls st H = aRLoad (fun st => aGo cl none cd_140 1 21 ls st H) ls 0 st) ∧
  (∀ ls st H, aGo cl none cd_140 1 21 ls st H = aDup (fun st => aGo cl none cd_140 1 22 ls st H) st) ∧
  (∀ ls st H, aGo cl none cd_140 1 22 ls st H = aGet (fun st => aGo cl none cd_140 1 25 ls st H) 8 5 H st) ∧
  (∀ ls st H, aGo cl none cd_140 1 25 ls st H = aGo cl none cd_140 1 26 ls (.int 1 :: st) H) ∧
  (∀ ls st H, aGo cl none cd_140 1 26 ls st H = aBin (fun st => aGo cl none cd_140 1 27 ls st H) (fun x y => x + y) st) ∧
  (∀ ls st H, aGo cl none cd_140 1 27 ls st H = aPut (fun st H => aGo cl none cd_140 1 30 ls st H) 8 5 H st) ∧
  (∀ ls st H, aGo cl none cd_140 1 30 ls st H = aGo cl none cd_140 1 31 ls (.int 1 :: st) H) ∧
  (∀ ls st H, aGo cl none cd_140 1 31 ls st H = aIret 1 st H) :=
  ⟨fun _ _ _ => (aGo_s rfl).trans rfl, fun _ _ _ => (aGo_s rfl).trans rfl, fun _ _ _ => (aGo_s rfl).trans rfl, fun _ _ _ => (aGo_s rfl).trans rfl, fun _ _ _ => (aGo_s rfl).trans rfl, fun _ _ _ => (aGo_s rfl).trans rfl, fun _ _ _ => (aGo_s rfl).trans rfl, fun _ _ _ => (aGo_s rfl).trans rfl, fun _ _ _ => (aGo_s rfl).trans rfl, fun _ _ _ => (aGo_s rfl).trans rfl, fun _ _ _ => (aGo_s rfl).trans rfl, fun _ _ _ => (aGo_s rfl).trans rfl, fun _ _ _ => (aGo_s rfl).trans rfl, fun _ _ _ => (aGo_s rfl).trans rfl, fun _ _ _ => (aGo_s rfl).trans rfl, fun _ _ _ => (aGo_s rfl).trans rfl, fun _ _ _ => (aGo_s rfl).trans rfl, fun _ _ _ => (aGo_s rfl).trans rfl, fun _ _ _ => (aGo_s rfl).trans rfl, fun _ _ _ => (aGo_s rfl).trans rfl⟩
theorem e_140 {d : Nat} {x0 : Nat} {H : aH} : aCall aMt (d + 1) 140 [.ref x0] H = aGo (aCall aMt d) none cd_140 1 0 [some (.ref x0)] [] H := (c_0 rfl ⟨rfl, Nat.le_of_ble_eq_true rfl, Nat.le_of_ble_eq_true rfl⟩).trans rfl
theorem s_141 {cl : Nat → List Value → aH → aRs} : (∀ ls st H, aGo cl none cd_141 1 0 ls st H = aRLoad (fun st => aGo cl none cd_141 1 1 ls st H) ls 0 st) ∧
  (∀ ls st H, aGo cl none cd_141 1 1 ls st H = aCallV (fun st H => aGo cl none cd_141 1 4 ls st H) cl 132 0 8 H st) ∧
  (∀ ls st H, aGo cl none cd_141 1 4 ls st H = aIStore (fun ls st => aGo cl none cd_141 1 5 ls st H) ls 1 st) ∧
  (∀ ls st H, aGo cl none cd_141 1 5 ls st H = aRLoad (fun st => aGo cl none cd_141 1 6 ls st H) ls 0 st) ∧
  (∀ ls st H, aGo cl none cd_141 1 6 ls st H = aILoad (fun st => aGo cl none cd_141 1 7 ls st H) ls 1 st) ∧
  (∀ ls st H, aGo cl none cd_141 1 7 ls st H = aCallV (fun st H => aGo cl none cd_141 1 10 ls st H) cl 133 1 8 H st) ∧
  (∀ ls st H, aGo cl none cd_141 1 10 ls st H = aIf (fun p st => aGo cl none cd_141 1 p ls st H) .eq 31 13 st) ∧
  (∀ ls st H, aGo cl none cd_141 1 13 ls st H = aRLoad (fun st => aGo cl none cd_141 1 14 ls st H) ls 0 st) ∧
  (∀ ls st H, aGo cl none cd_141 1 14 ls st H = aDup (fun st => aGo cl none cd_141 1 15 ls st H) st) ∧
  (∀ ls st H, aGo cl none cd_141 1 15 ls st H = aGet (fun st => aGo cl none cd_141 1 18 ls st H) 8 5 H st) ∧
  (∀ ls st H, aGo cl none cd_141 1 18 ls st H = aGo cl none cd_141 1 19 ls (.int 1 :: st) H) ∧
  (∀ ls st H, aGo cl none cd_141 1 19 ls st H = aBin (fun st => aGo cl none cd_141 1 20 ls st H) (fun x y => x + y) st) ∧
  (∀ ls st H, aGo cl none cd_141 1 20 ls st H = aPut (fun st H => aGo cl none cd_141 1 23 ls st H) 8 5 H st) ∧
  (∀ ls st H, aGo cl none cd_141 1 23 ls st H = aRLoad (fun st => aGo cl none cd_141 1 24 ls st H) ls 0 st) ∧
  (∀ ls st H, aGo cl none cd_141 1 24 ls st H = aGo cl none cd_141 1 25 ls (.int 1 :: st) H) ∧
  (∀ ls st H, aGo cl none cd_141 1 25 ls st H = aILoad (fun st => aGo cl none cd_141 1 26 ls st H) ls 1 st) ∧
  (∀ ls st H, aGo cl none cd_141 1 26 ls st H = aCallV (fun st H => aGo cl none cd_141 1 29 ls st H) cl 134 2 8 H st) ∧
  (∀ ls st H, aGo cl none cd_141 1 29 ls st H = aGo cl none cd_141 1 30 ls (.int 1 :: st) H) ∧
  (∀ ls st H, aGo cl none cd_141 1 30 ls st H = aIret 1 st H) ∧
  (∀ ls st H, aGo cl none cd_141 1 31 ls st H = aILoad (fun st => aGo cl none cd_141 1 32 ls st H) ls 1 st) ∧
  (∀ ls st H, aGo cl none cd_141 1 32 ls st H = aGo cl none cd_141 1 34 ls (.int 48 :: st) H) ∧
  (∀ ls st H, aGo cl none cd_141 1 34 ls st H = aGo cl none cd_141 1 36 ls (.int 57 :: st) H) ∧
  (∀ ls st H, aGo cl none cd_141 1 36 ls st H = aCallI (fun st H => aGo cl none cd_141 1 39 ls st H) cl 117 3 H st) ∧
  (∀ ls st H, aGo cl none cd_141 1 39 ls st H = aIf (fun p st => aGo cl none cd_141 1 p ls st H) .eq 102 42 st) ∧
  (∀ ls st H, aGo cl none cd_141 1 42 ls st H = aGo cl none cd_141 1 43 ls (.int 0 :: st) H) ∧
  (∀ ls st H, aGo cl none cd_141 1 43 ls st H = aIStore (fun ls st => aGo cl none cd_141 1 44 ls st H) ls 2 st) ∧
  (∀ ls st H, aGo cl none cd_141 1 44 ls st H = aGo cl none cd_141 1 45 ls (.int 0 :: st) H) ∧
  (∀ ls st H, aGo cl none cd_141 1 45 ls st H = aIStore (fun ls st => aGo cl none cd_141 1 46 ls st H) ls 3 st) ∧
  (∀ ls st H, aGo cl none cd_141 1 47 ls st H = aGo cl none cd_141 1 48 ls (.int 4 :: st) H) ∧
  (∀ ls st H, aGo cl none cd_141 1 48 ls st H = aIc (fun p st => aGo cl none cd_141 1 p ls st H) .ge 94 51 st) ∧
  (∀ ls st H, aGo cl none cd_141 1 51 ls st H = aRLoad (fun st => aGo cl none cd_141 1 52 ls st H) ls 0 st) ∧
  (∀ ls st H, aGo cl none cd_141 1 52 ls st H = aCallV (fun st H => aGo cl none cd_141 1 55 ls st H) cl 132 0 8 H st) ∧
  (∀ ls st H, aGo cl none cd_141 1 55 ls st H = aGo cl none cd_141 1 57 ls (.int 48 :: st) H) ∧
  (∀ ls st H, aGo cl none cd_141 1 57 ls st H = aGo cl none cd_141 1 59 ls (.int 57 :: st) H) ∧
  (∀ ls st H, aGo cl none cd_141 1 59 ls st H = aCallI (fun st H => aGo cl none cd_141 1 62 ls st H) cl 117 3 H st) ∧
  (∀ ls st H, aGo cl none cd_141 1 62 ls st H = aIf (fun p st => aGo cl none cd_141 1 p ls st H) .eq 94 65 st) ∧
  (∀ ls st H, aGo cl none cd_141 1 65 ls st H = aGo cl none cd_141 1 67 ls (.int 10 :: st) H) ∧
  (∀ ls st H, aGo cl none cd_141 1 67 ls st H = aILoad (fun st => aGo cl none cd_141 1 68 ls st H) ls 2 st) ∧
  (∀ ls st H, aGo cl none cd_141 1 68 ls st H = aBin (fun st => aGo cl none cd_141 1 69 ls st H) (fun x y => x * y) st) ∧
  (∀ ls st H, aGo cl none cd_141 1 69 ls st H = aRLoad (fun st => aGo cl none cd_141 1 70 ls st H) ls 0 st) ∧
  (∀ ls st H, aGo cl none cd_141 1 70 ls st H = aCallV (fun st H => aGo cl none cd_141 1 73 ls st H) cl 132 0 8 H st) ∧
  (∀ ls st H, aGo cl none cd_141 1 73 ls st H = aBin (fun st => aGo cl none cd_141 1 74 ls st H) (fun x y => x + y) st) ∧
  (∀ ls st H, aGo cl none cd_141 1 74 ls st H = aGo cl none cd_141 1 76 ls (.int 48 :: st) H) ∧
  (∀ ls st H, aGo cl none cd_141 1 76 ls st H = aBin (fun st => aGo cl none cd_141 1 77 ls st H) (fun x y => x - y) st) ∧
  (∀ ls st H, aGo cl none cd_141 1 77 ls st H = aIStore (fun ls st => aGo cl none cd_141 1 78 ls st H) ls 2 st) ∧
  (∀ ls st H, aGo cl none cd_141 1 78 ls st H = aRLoad (fun st => aGo cl none cd_141 1 79 ls st H) ls 0 st) ∧
  (∀ ls st H, aGo cl none cd_141 1 79 ls st H = aDup (fun st => aGo cl none cd_141 1 80 ls st H) st) ∧
  (∀ ls st H, aGo cl none cd_141 1 80 ls st H = aGet (fun st => aGo cl none cd_141 1 83 ls st H) 8 5 H st) ∧
  (∀ ls st H, aGo cl none cd_141 1 83 ls st H = aGo cl none cd_141 1 84 ls (.int 1 :: st) H) ∧
  (∀ ls st H, aGo cl none cd_141 1 84 ls st H = aBin (fun st => aGo cl none cd_141 1 85 ls st H) (fun x y => x + y) st) ∧
  (∀ ls st H, aGo cl none cd_141 1 85 ls st H = aPut (fun st H => aGo cl none cd_141 1 88 ls st H) 8 5 H st) ∧
  (∀ ls st H, aGo cl none cd_141 1 88 ls st H = aInc (fun ls => aGo cl none cd_141 1 91 ls st H) ls 3 1) ∧
  (∀ ls st H, aGo cl none cd_141 1 91 ls st H = aGo cl none cd_141 1 46 ls st H) ∧
  (∀ ls st H, aGo cl none cd_141 1 94 ls st H = aRLoad (fun st => aGo cl none cd_141 1 95 ls st H) ls 0 st) ∧
  (∀ ls st H, aGo cl none cd_141 1 95 ls st H = aGo cl none cd_141 1 96 ls (.int 0 :: st) H) ∧
  (∀ ls st H, aGo cl none cd_141 1 96 ls st H = aILoad (fun st => aGo cl none cd_141 1 97 ls st H) ls 2 st) ∧
  (∀ ls st H, aGo cl none cd_141 1 97 ls st H = aCallV (fun st H => aGo cl none cd_141 1 100 ls st H) cl 134 2 8 H st) ∧
  (∀ ls st H, aGo cl none cd_141 1 100 ls st H = aGo cl none cd_141 1 101 ls (.int 1 :: st) H) ∧
  (∀ ls st H, aGo cl none cd_141 1 101 ls st H = aIret 1 st H) ∧
  (∀ ls st H, aGo cl none cd_141 1 102 ls st H = aILoad (fun st => aGo cl none cd_141 1 103 ls st H) ls 1 st) ∧
  (∀ ls st H, aGo cl none cd_141 1 103 ls st H = aGo cl none cd_141 1 105 ls (.int 33 :: st) H) ∧
  (∀ ls st H, aGo cl none cd_141 1 105 ls st H = aIc (fun p st => aGo cl none cd_141 1 p ls st H) .ne 142 108 st) ∧
  (∀ ls st H, aGo cl none cd_141 1 108 ls st H = aRLoad (fun st => aGo cl none cd_141 1 109 ls st H) ls 0 st) ∧
  (∀ ls st H, aGo cl none cd_141 1 109 ls st H = aCallV (fun st H => aGo cl none cd_141 1 112 ls st H) cl 140 0 8 H st) ∧
  (∀ ls st H, aGo cl none cd_141 1 112 ls st H = aIf (fun p st => aGo cl none cd_141 1 p ls st H) .eq 122 115 st) ∧
  (∀ ls st H, aGo cl none cd_141 1 115 ls st H = aRLoad (fun st => aGo cl none cd_141 1 116 ls st H) ls 0 st) ∧
  (∀ ls st H, aGo cl none cd_141 1 116 ls st H = aCallV (fun st H => aGo cl none cd_141 1 119 ls st H) cl 141 0 8 H st) ∧
  (∀ ls st H, aGo cl none cd_141 1 119 ls st H = aIf (fun p st => aGo cl none cd_141 1 p ls st H) .ne 124 122 st) ∧
  (∀ ls st H, aGo cl none cd_141 1 122 ls st H = aGo cl none cd_141 1 123 ls (.int 0 :: st) H) ∧
  (∀ ls st H, aGo cl none cd_141 1 123 ls st H = aIret 1 st H) ∧
  (∀ ls st H, aGo cl none cd_141 1 124 ls st H = aRLoad (fun st => aGo cl none cd_141 1 125 ls st H) ls 0 st) ∧
  (∀ ls st H, aGo cl none cd_141 1 125 ls st H = aDup (fun st => aGo cl none cd_141 1 126 ls st H) st) ∧
  (∀ ls st H, aGo cl none cd_141 1 126 ls st H = aGet (fun st => aGo cl none cd_141 1 129 ls st H) 8 6 H st) ∧
  (∀ ls st H, aGo cl none cd_141 1 129 ls st H = aGo cl none cd_141 1 130 ls (.int 1 :: st) H) ∧
  (∀ ls st H, aGo cl none cd_141 1 130 ls st H = aBin (fun st => aGo cl none cd_141 1 131 ls st H) (fun x y => x - y) st) ∧
  (∀ ls st H, aGo cl none cd_141 1 131 ls st H = aPut (fun st H => aGo cl none cd_141 1 134 ls st H) 8 6 H st) ∧
  (∀ ls st H, aGo cl none cd_141 1 134 ls st H = aRLoad (fun st => aGo cl none cd_141 1 135 ls st H) ls 0 st) ∧
  (∀ ls st H, aGo cl none cd_141 1 135 ls st H = aGo cl none cd_141 1 136 ls (.int 2 :: st) H) ∧
  (∀ ls st H, aGo cl none cd_141 1 136 ls st H = aGo cl none cd_141 1 137 ls (.int 0 :: st) H) ∧
  (∀ ls st H, aGo cl none cd_141 1 137 ls st H = aCallV (fun st H => aGo cl none cd_141 1 140 ls st H) cl 134 2 8 H st) ∧
  (∀ ls st H, aGo cl none cd_141 1 140 ls st H = aGo cl none cd_141 1 141 ls (.int 1 :: st) H) ∧
  (∀ ls st H, aGo cl none cd_141 1 141 ls st H = aIret 1 st H) ∧
  (∀ ls st H, aGo cl none cd_141 1 142 ls st H = aILoad (fun st => aGo cl none cd_141 1 143 ls st H) ls 1 st) ∧
  (∀ ls st H, aGo cl none cd_141 1 143 ls st H = aGo cl none cd_141 1 145 ls (.int 40 :: st) H) ∧
  (∀ ls st H, aGo cl none cd_141 1 145 ls st H = aIc (fun p st => aGo cl none cd_141 1 p ls st H) .ne 171 148 st) ∧
  (∀ ls st H, aGo cl none cd_141 1 148 ls st H = aRLoad (fun st => aGo cl none cd_141 1 149 ls st H) ls 0 st) ∧
  (∀ ls st H, aGo cl none cd_141 1 149 ls st H = aCallV (fun st H => aGo cl none cd_141 1 152 ls st H) cl 140 0 8 H st) ∧
  (∀ ls st H, aGo cl none cd_141 1 152 ls st H = aIf (fun p st => aGo cl none cd_141 1 p ls st H) .eq 171 155 st) ∧
  (∀ ls st H, aGo cl none cd_141 1 155 ls st H = aRLoad (fun st => aGo cl none cd_141 1 156 ls st H) ls 0 st) ∧
  (∀ ls st H, aGo cl none cd_141 1 156 ls st H = aCallV (fun st H => aGo cl none cd_141 1 159 ls st H) cl 135 0 8 H st) ∧
  (∀ ls st H, aGo cl none cd_141 1 159 ls st H = aIf (fun p st => aGo cl none cd_141 1 p ls st H) .eq 171 162 st) ∧
  (∀ ls st H, aGo cl none cd_141 1 162 ls st H = aRLoad (fun st => aGo cl none cd_141 1 163 ls st H) ls 0 st) ∧
  (∀ ls st H, aGo cl none cd_141 1 163 ls st H = aCallV (fun st H => aGo cl none cd_141 1 166 ls st H) cl 132 0 8 H st) ∧
  (∀ ls st H, aGo cl none cd_141 1 166 ls st H = aGo cl none cd_141 1 168 ls (.int 41 :: st) H) ∧
  (∀ ls st H, aGo cl none cd_141 1 168 ls st H = aIc (fun p st => aGo cl none cd_141 1 p ls st H) .eq 173 171 st) ∧
  (∀ ls st H, aGo cl none cd_141 1 171 ls st H = aGo cl none cd_141 1 172 ls (.int 0 :: st) H) ∧
  (∀ ls st H, aGo cl none cd_141 1 172 ls st H = aIret 1 st H) ∧
  (∀ ls st H, aGo cl none cd_141 1 173 ls st H = aRLoad (fun st => aGo cl none cd_141 1 174 ls st H) ls 0 st) ∧
  (∀ ls st H, aGo cl none cd_141 1 174 ls st H = aDup (fun st => aGo cl none cd_141 1 175 ls st H) st) ∧
  (∀ ls st H, aGo cl none cd_141 1 175 ls st H = aGet (fun st => aGo cl none cd_141 1 178 ls st H) 8 5 H st) ∧
  (∀ ls st H, aGo cl none cd_141 1 178 ls st H = aGo cl none cd_141 1 179 ls (.int 1 :: st) H) ∧
  (∀ ls st H, aGo cl none cd_141 1 179 ls st H = aBin (fun st => aGo cl none cd_141 1 180 ls st H) (fun x y => x + y) st) ∧
  (∀ ls st H, aGo cl none cd_141 1 180 ls st H = aPut (fun st H => aGo cl none cd_141 1 183 ls st H) 8 5 H st) ∧
  (∀ ls st H, aGo cl none cd_141 1 183 ls st H = aRLoad (fun st => aGo cl none cd_141 1 184 ls st H) ls 0 st) ∧
  (∀ ls st H, aGo cl none cd_141 1 184 ls st H = aDup (fun st => aGo cl none cd_141 1 185 ls st H) st) ∧
  (∀ ls st H, aGo cl none cd_141 1 185 ls st H = aGet (fun st => aGo cl none cd_141 1 188 ls st H) 8 6 H st) ∧
  (∀ ls st H, aGo cl none cd_141 1 188 ls st H = aGo cl none cd_141 1 189 ls (.int 1 :: st) H) ∧
  (∀ ls st H, aGo cl none cd_141 1 189 ls st H = aBin (fun st => aGo cl none cd_141 1 190 ls st H) (fun x y => x - y) st) ∧
  (∀ ls st H, aGo cl none cd_141 1 190 ls st H = aPut (fun st H => aGo cl none cd_141 1 193 ls st H) 8 6 H st) ∧
  (∀ ls st H, aGo cl none cd_141 1 193 ls st H = aGo cl none cd_141 1 194 ls (.int 1 :: st) H) ∧
  (∀ ls st H, aGo cl none cd_141 1 194 ls st H = aIret 1 st H) :=
  ⟨fun _ _ _ => (aGo_s rfl).trans rfl, fun _ _ _ => (aGo_s rfl).trans rfl, fun _ _ _ => (aGo_s rfl).trans rfl, fun _ _ _ => (aGo_s rfl).trans rfl, fun _ _ _ => (aGo_s rfl).trans rfl, fun _ _ _ => (aGo_s rfl).trans rfl, fun _ _ _ => (aGo_s rfl).trans rfl, fun _ _ _ => (aGo_s rfl).trans rfl, fun _ _ _ => (aGo_s rfl).trans rfl, fun _ _ _ => (aGo_s rfl).trans rfl, fun _ _ _ => (aGo_s rfl).trans rfl, fun _ _ _ => (aGo_s rfl).trans rfl, fun _ _ _ => (aGo_s rfl).trans rfl, fun _ _ _ => (aGo_s rfl).trans rfl, fun _ _ _ => (aGo_s rfl).trans rfl, fun _ _ _ => (aGo_s rfl).trans rfl, fun _ _ _ => (aGo_s rfl).trans rfl, fun _ _ _ => (aGo_s rfl).trans rfl, fun _ _ _ => (aGo_s rfl).trans rfl, fun _ _ _ => (aGo_s rfl).trans rfl, fun _ _ _ => (aGo_s rfl).trans rfl, fun _ _ _ => (aGo_s rfl).trans rfl, fun _ _ _ => (aGo_s rfl).trans rfl, fun _ _ _ => (aGo_s rfl).trans rfl, fun _ _ _ => (aGo_s rfl).trans rfl, fun _ _ _ => (aGo_s rfl).trans rfl, fun _ _ _ => (aGo_s rfl).trans rfl, fun _ _ _ => (aGo_s rfl).trans rfl, fun _ _ _ => (aGo_s rfl).trans rfl, fun _ _ _ => (aGo_s rfl).trans rfl, fun _ _ _ => (aGo_s rfl).trans rfl, fun _ _ _ => (aGo_s rfl).trans rfl, fun _ _ _ => (aGo_s rfl).trans rfl, fun _ _ _ => (aGo_s rfl).trans rfl, fun _ _ _ => (aGo_s rfl).trans rfl, fun _ _ _ => (aGo_s rfl).trans rfl, fun _ _ _ => (aGo_s rfl).trans rfl, fun _ _ _ => (aGo_s rfl).trans rfl, fun _ _ _ => (aGo_s rfl).trans rfl, fun _ _ _ => (aGo_s rfl).trans rfl, fun _ _ _ => (aGo_s rfl).trans rfl, fun _ _ _ => (aGo_s rfl).trans rfl, fun _ _ _ => (aGo_s rfl).trans rfl, fun _ _ _ => (aGo_s rfl).trans rfl, fun _ _ _ => (aGo_s rfl).trans rfl, fun _ _ _ => (aGo_s rfl).trans rfl, fun _ _ _ => (aGo_s rfl).trans rfl, fun _ _ _ => (aGo_s rfl).trans rfl, fun _ _ _ => (aGo_s rfl).trans rfl, fun _ _ _ => (aGo_s rfl).trans rfl, fun _ _ _ => (aGo_s rfl).trans rfl, fun _ _ _ => (aGo_s rfl).trans rfl, fun _ _ _ => (aGo_s rfl).trans rfl, fun _ _ _ => (aGo_s rfl).trans rfl, fun _ _ _ => (aGo_s rfl).trans rfl, fun _ _ _ => (aGo_s rfl).trans rfl, fun _ _ _ => (aGo_s rfl).trans rfl, fun _ _ _ => (aGo_s rfl).trans rfl, fun _ _ _ => (aGo_s rfl).trans rfl, fun _ _ _ => (aGo_s rfl).trans rfl, fun _ _ _ => (aGo_s rfl).trans rfl, fun _ _ _ => (aGo_s rfl).trans rfl, fun _ _ _ => (aGo_s rfl).trans rfl, fun _ _ _ => (aGo_s rfl).trans rfl, fun _ _ _ => (aGo_s rfl).trans rfl, fun _ _ _ => (aGo_s rfl).trans rfl, fun _ _ _ => (aGo_s rfl).trans rfl, fun _ _ _ => (aGo_s rfl).trans rfl, fun _ _ _ => (aGo_s rfl).trans rfl, fun _ _ _ => (aGo_s rfl).trans rfl, fun _ _ _ => (aGo_s rfl).trans rfl, fun _ _ _ => (aGo_s rfl).trans rfl, fun _ _ _ => (aGo_s rfl).trans rfl, fun _ _ _ => (aGo_s rfl).trans rfl, fun _ _ _ => (aGo_s rfl).trans rfl, fun _ _ _ => (aGo_s rfl).trans rfl, fun _ _ _ => (aGo_s rfl).trans rfl, fun _ _ _ => (aGo_s rfl).trans rfl, fun _ _ _ => (aGo_s rfl).trans rfl, fun _ _ _ => (aGo_s rfl).trans rfl, fun _ _ _ => (aGo_s rfl).trans rfl, fun _ _ _ => (aGo_s rfl).trans rfl, fun _ _ _ => (aGo_s rfl).trans rfl, fun _ _ _ => (aGo_s rfl).trans rfl, fun _ _ _ => (aGo_s rfl).trans rfl, fun _ _ _ => (aGo_s rfl).trans rfl, fun _ _ _ => (aGo_s rfl).trans rfl, fun _ _ _ => (aGo_s rfl).trans rfl, fun _ _ _ => (aGo_s rfl).trans rfl, fun _ _ _ => (aGo_s rfl).trans rfl, fun _ _ _ => (aGo_s rfl).trans rfl, fun _ _ _ => (aGo_s rfl).trans rfl, fun _ _ _ => (aGo_s rfl).trans rfl, fun _ _ _ => (aGo_s rfl).trans rfl, fun _ _ _ => (aGo_s rfl).trans rfl, fun _ _ _ => (aGo_s rfl).trans rfl, fun _ _ _ => (aGo_s rfl).trans rfl, fun _ _ _ => (aGo_s rfl).trans rfl, fun _ _ _ => (aGo_s rfl).trans rfl, fun _ _ _ => (aGo_s rfl).trans rfl, fun _ _ _ => (aGo_s rfl).trans rfl, fun _ _ _ => (aGo_s rfl).trans rfl, fun _ _ _ => (aGo_s rfl).trans rfl, fun _ _ _ => (aGo_s rfl).trans rfl, fun _ _ _ => (aGo_s rfl).trans rfl, fun _ _ _ => (aGo_s rfl).trans rfl, fun _ _ _ => (aGo_s rfl).trans rfl, fun _ _ _ => (aGo_s rfl).trans rfl, fun _ _ _ => (aGo_s rfl).trans rfl, fun _ _ _ => (aGo_s rfl).trans rfl, fun _ _ _ => (aGo_s rfl).trans rfl⟩
theorem s_141_46 {cl : Nat → List Value → aH → aRs} : ∀ ls st H, aGo cl none cd_141 1 46 ls st H = aILoad (fun st => aGo cl none cd_141 1 47 ls st H) ls 3 st := fun _ _ _ => (aGo_s rfl).trans rfl
theorem e_141 {d : Nat} {x0 : Nat} {H : aH} : aCall aMt (d + 1) 141 [.ref x0] H = aGo (aCall aMt d) none cd_141 1 0 [some (.ref x0), none, none, none] [] H := (c_0 rfl ⟨rfl, Nat.le_of_ble_eq_true rfl, Nat.le_of_ble_eq_true rfl⟩).trans rfl
theorem s_142 {cl : Nat → List Value → aH → aRs} : (∀ ls st H, aGo cl none cd_142 1 0 ls st H = aRLoad (fun st => aGo cl none cd_142 1 1 ls st H) ls 0 st) ∧
  (∀ ls st H, aGo cl none cd_142 1 1 ls st H = aGet (fun st => aGo cl none cd_142 1 4 ls st H) 8 0 H st) ∧
  (∀ ls st H, aGo cl none cd_142 1 4 ls st H = aGo cl none cd_142 1 6 ls (.int 120 :: st) H) ∧
  (∀ ls st H, aGo cl none cd_142 1 6 ls st H = aGo cl none cd_142 1 8 ls (.int 125 :: st) H) ∧
  (∀ ls st H, aGo cl none cd_142 1 8 ls st H = aILoad (fun st => aGo cl none cd_142 1 9 ls st H) ls 1 st) ∧
  (∀ ls st H, aGo cl none cd_142 1 9 ls st H = aBin (fun st => aGo cl none cd_142 1 10 ls st H) (fun x y => x * y) st) ∧
  (∀ ls st H, aGo cl none cd_142 1 10 ls st H = aBin (fun st => aGo cl none cd_142 1 11 ls st H) (fun x y => x + y) st) ∧
  (∀ ls st H, aGo cl none cd_142 1 11 ls st H = aIald (fun st => aGo cl none cd_142 1 12 ls st H) none H st) ∧
  (∀ ls st H, aGo cl none cd_142 1 12 ls st H = aIf (fun p st => aGo cl none cd_142 1 p ls st H) .le 19 15 st) ∧
  (∀ ls st H, aGo cl none cd_142 1 15 ls st H = aGo cl none cd_142 1 16 ls (.int 1 :: st) H) ∧
  (∀ ls st H, aGo cl none cd_142 1 16 ls st H = aGo cl none cd_142 1 20 ls st H) ∧
  (∀ ls st H, aGo cl none cd_142 1 19 ls st H = aGo cl none cd_142 1 20 ls (.int 0 :: st) H) ∧
  (∀ ls st H, aGo cl none cd_142 1 20 ls st H = aIret 1 st H) :=
  ⟨fun _ _ _ => (aGo_s rfl).trans rfl, fun _ _ _ => (aGo_s rfl).trans rfl, fun _ _ _ => (aGo_s rfl).trans rfl, fun _ _ _ => (aGo_s rfl).trans rfl, fun _ _ _ => (aGo_s rfl).trans rfl, fun _ _ _ => (aGo_s rfl).trans rfl, fun _ _ _ => (aGo_s rfl).trans rfl, fun _ _ _ => (aGo_s rfl).trans rfl, fun _ _ _ => (aGo_s rfl).trans rfl, fun _ _ _ => (aGo_s rfl).trans rfl, fun _ _ _ => (aGo_s rfl).trans rfl, fun _ _ _ => (aGo_s rfl).trans rfl, fun _ _ _ => (aGo_s rfl).trans rfl⟩
theorem e_142 {d : Nat} {x0 : Nat} {x1 : Int32} {H : aH} : aCall aMt (d + 1) 142 [.ref x0, .int x1] H = aGo (aCall aMt d) none cd_142 1 0 [some (.ref x0), some (.int x1)] [] H := (c_0 rfl ⟨rfl, Nat.le_of_ble_eq_true rfl, Nat.le_of_ble_eq_true rfl⟩).trans rfl
theorem s_143 {cl : Nat → List Value → aH → aRs} : (∀ ls st H, aGo cl none cd_143 0 0 ls st H = aILoad (fun st => aGo cl none cd_143 0 1 ls st H) ls 1 st) ∧
  (∀ ls st H, aGo cl none cd_143 0 1 ls st H = aGo cl none cd_143 0 2 ls (.int 0 :: st) H) ∧
  (∀ ls st H, aGo cl none cd_143 0 2 ls st H = aGo cl none cd_143 0 3 ls (.int 1 :: st) H) ∧
  (∀ ls st H, aGo cl none cd_143 0 3 ls st H = aCallI (fun st H => aGo cl none cd_143 0 6 ls st H) cl 117 3 H st) ∧
  (∀ ls st H, aGo cl none cd_143 0 6 ls st H = aIf (fun p st => aGo cl none cd_143 0 p ls st H) .ne 15 9 st) ∧
  (∀ ls st H, aGo cl none cd_143 0 9 ls st H = aRLoad (fun st => aGo cl none cd_143 0 10 ls st H) ls 0 st) ∧
  (∀ ls st H, aGo cl none cd_143 0 10 ls st H = aGo cl none cd_143 0 11 ls (.int 1 :: st) H) ∧
  (∀ ls st H, aGo cl none cd_143 0 11 ls st H = aCallV (fun st H => aGo cl none cd_143 0 14 ls st H) cl 116 1 8 H st) ∧
  (∀ ls st H, aGo cl none cd_143 0 14 ls st H = aIret 0 st H) ∧
  (∀ ls st H, aGo cl none cd_143 0 15 ls st H = aRLoad (fun st => aGo cl none cd_143 0 16 ls st H) ls 0 st) ∧
  (∀ ls st H, aGo cl none cd_143 0 16 ls st H = aILoad (fun st => aGo cl none cd_143 0 17 ls st H) ls 1 st) ∧
  (∀ ls st H, aGo cl none cd_143 0 17 ls st H = aPut (fun st H => aGo cl none cd_143 0 20 ls st H) 8 8 H st) ∧
  (∀ ls st H, aGo cl none cd_143 0 20 ls st H = aRLoad (fun st => aGo cl none cd_143 0 21 ls st H) ls 0 st) ∧
  (∀ ls st H, aGo cl none cd_143 0 21 ls st H = aGo cl none cd_143 0 22 ls (.int 0 :: st) H) ∧
  (∀ ls st H, aGo cl none cd_143 0 22 ls st H = aPut (fun st H => aGo cl none cd_143 0 25 ls st H) 8 5 H st) ∧
  (∀ ls st H, aGo cl none cd_143 0 25 ls st H = aRLoad (fun st => aGo cl none cd_143 0 26 ls st H) ls 0 st) ∧
  (∀ ls st H, aGo cl none cd_143 0 26 ls st H = aGo cl none cd_143 0 27 ls (.int 0 :: st) H) ∧
  (∀ ls st H, aGo cl none cd_143 0 27 ls st H = aPut (fun st H => aGo cl none cd_143 0 30 ls st H) 8 6 H st) ∧
  (∀ ls st H, aGo cl none cd_143 0 30 ls st H = aRLoad (fun st => aGo cl none cd_143 0 31 ls st H) ls 0 st) ∧
  (∀ ls st H, aGo cl none cd_143 0 31 ls st H = aGo cl none cd_143 0 32 ls (.int 0 :: st) H) ∧
  (∀ ls st H, aGo cl none cd_143 0 32 ls st H = aPut (fun st H => aGo cl none cd_143 0 35 ls st H) 8 7 H st) ∧
  (∀ ls st H, aGo cl none cd_143 0 35 ls st H = aRLoad (fun st => aGo cl none cd_143 0 36 ls st H) ls 0 st) ∧
  (∀ ls st H, aGo cl none cd_143 0 36 ls st H = aCallV (fun st H => aGo cl none cd_143 0 39 ls st H) cl 135 0 8 H st) ∧
  (∀ ls st H, aGo cl none cd_143 0 39 ls st H = aIf (fun p st => aGo cl none cd_143 0 p ls st H) .eq 59 42 st) ∧
  (∀ ls st H, aGo cl none cd_143 0 42 ls st H = aRLoad (fun st => aGo cl none cd_143 0 43 ls st H) ls 0 st) ∧
  (∀ ls st H, aGo cl none cd_143 0 43 ls st H = aGet (fun st => aGo cl none cd_143 0 46 ls st H) 8 5 H st) ∧
  (∀ ls st H, aGo cl none cd_143 0 46 ls st H = aRLoad (fun st => aGo cl none cd_143 0 47 ls st H) ls 0 st) ∧
  (∀ ls st H, aGo cl none cd_143 0 47 ls st H = aGet (fun st => aGo cl none cd_143 0 50 ls st H) 8 0 H st) ∧
  (∀ ls st H, aGo cl none cd_143 0 50 ls st H = aGo cl none cd_143 0 51 ls (.int 5 :: st) H) ∧
  (∀ ls st H, aGo cl none cd_143 0 51 ls st H = aIald (fun st => aGo cl none cd_143 0 52 ls st H) none H st) ∧
  (∀ ls st H, aGo cl none cd_143 0 52 ls st H = aIc (fun p st => aGo cl none cd_143 0 p ls st H) .ne 59 55 st) ∧
  (∀ ls st H, aGo cl none cd_143 0 55 ls st H = aGo cl none cd_143 0 56 ls (.int 1 :: st) H) ∧
  (∀ ls st H, aGo cl none cd_143 0 56 ls st H = aGo cl none cd_143 0 60 ls st H) ∧
  (∀ ls st H, aGo cl none cd_143 0 59 ls st H = aGo cl none cd_143 0 60 ls (.int 0 :: st) H) ∧
  (∀ ls st H, aGo cl none cd_143 0 60 ls st H = aIStore (fun ls st => aGo cl none cd_143 0 61 ls st H) ls 2 st) ∧
  (∀ ls st H, aGo cl none cd_143 0 61 ls st H = aRLoad (fun st => aGo cl none cd_143 0 62 ls st H) ls 0 st) ∧
  (∀ ls st H, aGo cl none cd_143 0 62 ls st H = aGet (fun st => aGo cl none cd_143 0 65 ls st H) 8 0 H st) ∧
  (∀ ls st H, aGo cl none cd_143 0 65 ls st H = aGo cl none cd_143 0 66 ls (.int 5 :: st) H) ∧
  (∀ ls st H, aGo cl none cd_143 0 66 ls st H = aGo cl none cd_143 0 67 ls (.int 0 :: st) H) ∧
  (∀ ls st H, aGo cl none cd_143 0 67 ls st H = aIast (fun st H => aGo cl none cd_143 0 68 ls st H) H st) ∧
  (∀ ls st H, aGo cl none cd_143 0 68 ls st H = aILoad (fun st => aGo cl none cd_143 0 69 ls st H) ls 2 st) ∧
  (∀ ls st H, aGo cl none cd_143 0 69 ls st H = aIf (fun p st => aGo cl none cd_143 0 p ls st H) .ne 80 72 st) ∧
  (∀ ls st H, aGo cl none cd_143 0 72 ls st H = aGo cl none cd_143 0 74 ls (.int (-10) :: st) H) ∧
  (∀ ls st H, aGo cl none cd_143 0 74 ls st H = aRLoad (fun st => aGo cl none cd_143 0 75 ls st H) ls 0 st) ∧
  (∀ ls st H, aGo cl none cd_143 0 75 ls st H = aGet (fun st => aGo cl none cd_143 0 78 ls st H) 8 5 H st) ∧
  (∀ ls st H, aGo cl none cd_143 0 78 ls st H = aBin (fun st => aGo cl none cd_143 0 79 ls st H) (fun x y => x - y) st) ∧
  (∀ ls st H, aGo cl none cd_143 0 79 ls st H = aIret 0 st H) ∧
  (∀ ls st H, aGo cl none cd_143 0 80 ls st H = aGo cl none cd_143 0 82 ls (.int 120 :: st) H) ∧
  (∀ ls st H, aGo cl none cd_143 0 82 ls st H = aGo cl none cd_143 0 84 ls (.int 125 :: st) H) ∧
  (∀ ls st H, aGo cl none cd_143 0 84 ls st H = aILoad (fun st => aGo cl none cd_143 0 85 ls st H) ls 1 st) ∧
  (∀ ls st H, aGo cl none cd_143 0 85 ls st H = aBin (fun st => aGo cl none cd_143 0 86 ls st H) (fun x y => x * y) st) ∧
  (∀ ls st H, aGo cl none cd_143 0 86 ls st H = aBin (fun st => aGo cl none cd_143 0 87 ls st H) (fun x y => x + y) st) ∧
  (∀ ls st H, aGo cl none cd_143 0 87 ls st H = aIStore (fun ls st => aGo cl none cd_143 0 88 ls st H) ls 3 st) ∧
  (∀ ls st H, aGo cl none cd_143 0 88 ls st H = aRLoad (fun st => aGo cl none cd_143 0 89 ls st H) ls 0 st) ∧
  (∀ ls st H, aGo cl none cd_143 0 89 ls st H = aGet (fun st => aGo cl none cd_143 0 92 ls st H) 8 0 H st) ∧
  (∀ ls st H, aGo cl none cd_143 0 92 ls st H = aILoad (fun st => aGo cl none cd_143 0 93 ls st H) ls 3 st) ∧
  (∀ ls st H, aGo cl none cd_143 0 93 ls st H = aRLoad (fun st => aGo cl none cd_143 0 94 ls st H) ls 0 st) ∧
  (∀ ls st H, aGo cl none cd_143 0 94 ls st H = aGet (fun st => aGo cl none cd_143 0 97 ls st H) 8 7 H st) ∧
  (∀ ls st H, aGo cl none cd_143 0 97 ls st H = aIast (fun st H => aGo cl none cd_143 0 98 ls st H) H st) ∧
  (∀ ls st H, aGo cl none cd_143 0 98 ls st H = aGo cl none cd_143 0 99 ls (.int 0 :: st) H) ∧
  (∀ ls st H, aGo cl none cd_143 0 99 ls st H = aIStore (fun ls st => aGo cl none cd_143 0 101 ls st H) ls 4 st) ∧
  (∀ ls st H, aGo cl none cd_143 0 103 ls st H = aGo cl none cd_143 0 104 ls (.int 2 :: st) H) ∧
  (∀ ls st H, aGo cl none cd_143 0 104 ls st H = aRLoad (fun st => aGo cl none cd_143 0 105 ls st H) ls 0 st) ∧
  (∀ ls st H, aGo cl none cd_143 0 105 ls st H = aGet (fun st => aGo cl none cd_143 0 108 ls st H) 8 7 H st) ∧
  (∀ ls st H, aGo cl none cd_143 0 108 ls st H = aBin (fun st => aGo cl none cd_143 0 109 ls st H) (fun x y => x * y) st) ∧
  (∀ ls st H, aGo cl none cd_143 0 109 ls st H = aIc (fun p st => aGo cl none cd_143 0 p ls st H) .ge 136 112 st) ∧
  (∀ ls st H, aGo cl none cd_143 0 112 ls st H = aRLoad (fun st => aGo cl none cd_143 0 113 ls st H) ls 0 st) ∧
  (∀ ls st H, aGo cl none cd_143 0 113 ls st H = aGet (fun st => aGo cl none cd_143 0 116 ls st H) 8 0 H st) ∧
  (∀ ls st H, aGo cl none cd_143 0 116 ls st H = aILoad (fun st => aGo cl none cd_143 0 117 ls st H) ls 3 st) ∧
  (∀ ls st H, aGo cl none cd_143 0 117 ls st H = aGo cl none cd_143 0 118 ls (.int 1 :: st) H) ∧
  (∀ ls st H, aGo cl none cd_143 0 118 ls st H = aBin (fun st => aGo cl none cd_143 0 119 ls st H) (fun x y => x + y) st) ∧
  (∀ ls st H, aGo cl none cd_143 0 119 ls st H = aILoad (fun st => aGo cl none cd_143 0 121 ls st H) ls 4 st) ∧
  (∀ ls st H, aGo cl none cd_143 0 121 ls st H = aBin (fun st => aGo cl none cd_143 0 122 ls st H) (fun x y => x + y) st) ∧
  (∀ ls st H, aGo cl none cd_143 0 122 ls st H = aRLoad (fun st => aGo cl none cd_143 0 123 ls st H) ls 0 st) ∧
  (∀ ls st H, aGo cl none cd_143 0 123 ls st H = aGet (fun st => aGo cl none cd_143 0 126 ls st H) 8 9 H st) ∧
  (∀ ls st H, aGo cl none cd_143 0 126 ls st H = aILoad (fun st => aGo cl none cd_143 0 128 ls st H) ls 4 st) ∧
  (∀ ls st H, aGo cl none cd_143 0 128 ls st H = aIald (fun st => aGo cl none cd_143 0 129 ls st H) none H st) ∧
  (∀ ls st H, aGo cl none cd_143 0 129 ls st H = aIast (fun st H => aGo cl none cd_143 0 130 ls st H) H st) ∧
  (∀ ls st H, aGo cl none cd_143 0 130 ls st H = aInc (fun ls => aGo cl none cd_143 0 133 ls st H) ls 4 1) ∧
  (∀ ls st H, aGo cl none cd_143 0 133 ls st H = aGo cl none cd_143 0 101 ls st H) ∧
  (∀ ls st H, aGo cl none cd_143 0 136 ls st H = aGo cl none cd_143 0 137 ls (.int 1 :: st) H) ∧
  (∀ ls st H, aGo cl none cd_143 0 137 ls st H = aIret 0 st H) :=
  ⟨fun _ _ _ => (aGo_s rfl).trans rfl, fun _ _ _ => (aGo_s rfl).trans rfl, fun _ _ _ => (aGo_s rfl).trans rfl, fun _ _ _ => (aGo_s rfl).trans rfl, fun _ _ _ => (aGo_s rfl).trans rfl, fun _ _ _ => (aGo_s rfl).trans rfl, fun _ _ _ => (aGo_s rfl).trans rfl, fun _ _ _ => (aGo_s rfl).trans rfl, fun _ _ _ => (aGo_s rfl).trans rfl, fun _ _ _ => (aGo_s rfl).trans rfl, fun _ _ _ => (aGo_s rfl).trans rfl, fun _ _ _ => (aGo_s rfl).trans rfl, fun _ _ _ => (aGo_s rfl).trans rfl, fun _ _ _ => (aGo_s rfl).trans rfl, fun _ _ _ => (aGo_s rfl).trans rfl, fun _ _ _ => (aGo_s rfl).trans rfl, fun _ _ _ => (aGo_s rfl).trans rfl, fun _ _ _ => (aGo_s rfl).trans rfl, fun _ _ _ => (aGo_s rfl).trans rfl, fun _ _ _ => (aGo_s rfl).trans rfl, fun _ _ _ => (aGo_s rfl).trans rfl, fun _ _ _ => (aGo_s rfl).trans rfl, fun _ _ _ => (aGo_s rfl).trans rfl, fun _ _ _ => (aGo_s rfl).trans rfl, fun _ _ _ => (aGo_s rfl).trans rfl, fun _ _ _ => (aGo_s rfl).trans rfl, fun _ _ _ => (aGo_s rfl).trans rfl, fun _ _ _ => (aGo_s rfl).trans rfl, fun _ _ _ => (aGo_s rfl).trans rfl, fun _ _ _ => (aGo_s rfl).trans rfl, fun _ _ _ => (aGo_s rfl).trans rfl, fun _ _ _ => (aGo_s rfl).trans rfl, fun _ _ _ => (aGo_s rfl).trans rfl, fun _ _ _ => (aGo_s rfl).trans rfl, fun _ _ _ => (aGo_s rfl).trans rfl, fun _ _ _ => (aGo_s rfl).trans rfl, fun _ _ _ => (aGo_s rfl).trans rfl, fun _ _ _ => (aGo_s rfl).trans rfl, fun _ _ _ => (aGo_s rfl).trans rfl, fun _ _ _ => (aGo_s rfl).trans rfl, fun _ _ _ => (aGo_s rfl).trans rfl, fun _ _ _ => (aGo_s rfl).trans rfl, fun _ _ _ => (aGo_s rfl).trans rfl, fun _ _ _ => (aGo_s rfl).trans rfl, fun _ _ _ => (aGo_s rfl).trans rfl, fun _ _ _ => (aGo_s rfl).trans rfl, fun _ _ _ => (aGo_s rfl).trans rfl, fun _ _ _ => (aGo_s rfl).trans rfl, fun _ _ _ => (aGo_s rfl).trans rfl, fun _ _ _ => (aGo_s rfl).trans rfl, fun _ _ _ => (aGo_s rfl).trans rfl, fun _ _ _ => (aGo_s rfl).trans rfl, fun _ _ _ => (aGo_s rfl).trans rfl, fun _ _ _ => (aGo_s rfl).trans rfl, fun _ _ _ => (aGo_s rfl).trans rfl, fun _ _ _ => (aGo_s rfl).trans rfl, fun _ _ _ => (aGo_s rfl).trans rfl, fun _ _ _ => (aGo_s rfl).trans rfl, fun _ _ _ => (aGo_s rfl).trans rfl, fun _ _ _ => (aGo_s rfl).trans rfl, fun _ _ _ => (aGo_s rfl).trans rfl, fun _ _ _ => (aGo_s rfl).trans rfl, fun _ _ _ => (aGo_s rfl).trans rfl, fun _ _ _ => (aGo_s rfl).trans rfl, fun _ _ _ => (aGo_s rfl).trans rfl, fun _ _ _ => (aGo_s rfl).trans rfl, fun _ _ _ => (aGo_s rfl).trans rfl, fun _ _ _ => (aGo_s rfl).trans rfl, fun _ _ _ => (aGo_s rfl).trans rfl, fun _ _ _ => (aGo_s rfl).trans rfl, fun _ _ _ => (aGo_s rfl).trans rfl, fun _ _ _ => (aGo_s rfl).trans rfl, fun _ _ _ => (aGo_s rfl).trans rfl, fun _ _ _ => (aGo_s rfl).trans rfl, fun _ _ _ => (aGo_s rfl).trans rfl, fun _ _ _ => (aGo_s rfl).trans rfl, fun _ _ _ => (aGo_s rfl).trans rfl, fun _ _ _ => (aGo_s rfl).trans rfl, fun _ _ _ => (aGo_s rfl).trans rfl, fun _ _ _ => (aGo_s rfl).trans rfl, fun _ _ _ => (aGo_s rfl).trans rfl, fun _ _ _ => (aGo_s rfl).trans rfl⟩
theorem s_143_101 {cl : Nat → List Value → aH → aRs} : ∀ ls st H, aGo cl none cd_143 0 101 ls st H = aILoad (fun st => aGo cl none cd_143 0 103 ls st H) ls 4 st := fun _ _ _ => (aGo_s rfl).trans rfl
theorem e_143 {d : Nat} {x0 : Nat} {x1 : Int32} {H : aH} : aCall aMt (d + 1) 143 [.ref x0, .int x1] H = aGo (aCall aMt d) none cd_143 0 0 [some (.ref x0), some (.int x1), none, none, none] [] H := (c_0 rfl ⟨rfl, Nat.le_of_ble_eq_true rfl, Nat.le_of_ble_eq_true rfl⟩).trans rfl
theorem s_144 {cl : Nat → List Value → aH → aRs} : (∀ ls st H, aGo cl none cd_144 0 0 ls st H = aILoad (fun st => aGo cl none cd_144 0 1 ls st H) ls 1 st) ∧
  (∀ ls st H, aGo cl none cd_144 0 1 ls st H = aGo cl none cd_144 0 2 ls (.int 0 :: st) H) ∧
  (∀ ls st H, aGo cl none cd_144 0 2 ls st H = aGo cl none cd_144 0 3 ls (.int 1 :: st) H) ∧
  (∀ ls st H, aGo cl none cd_144 0 3 ls st H = aCallI (fun st H => aGo cl none cd_144 0 6 ls st H) cl 117 3 H st) ∧
  (∀ ls st H, aGo cl none cd_144 0 6 ls st H = aIf (fun p st => aGo cl none cd_144 0 p ls st H) .ne 15 9 st) ∧
  (∀ ls st H, aGo cl none cd_144 0 9 ls st H = aRLoad (fun st => aGo cl none cd_144 0 10 ls st H) ls 0 st) ∧
  (∀ ls st H, aGo cl none cd_144 0 10 ls st H = aGo cl none cd_144 0 11 ls (.int 1 :: st) H) ∧
  (∀ ls st H, aGo cl none cd_144 0 11 ls st H = aCallV (fun st H => aGo cl none cd_144 0 14 ls st H) cl 116 1 8 H st) ∧
  (∀ ls st H, aGo cl none cd_144 0 14 ls st H = aIret 0 st H) ∧
  (∀ ls st H, aGo cl none cd_144 0 15 ls st H = aRLoad (fun st => aGo cl none cd_144 0 16 ls st H) ls 0 st) ∧
  (∀ ls st H, aGo cl none cd_144 0 16 ls st H = aILoad (fun st => aGo cl none cd_144 0 17 ls st H) ls 1 st) ∧
  (∀ ls st H, aGo cl none cd_144 0 17 ls st H = aCallV (fun st H => aGo cl none cd_144 0 20 ls st H) cl 142 1 8 H st) ∧
  (∀ ls st H, aGo cl none cd_144 0 20 ls st H = aIf (fun p st => aGo cl none cd_144 0 p ls st H) .eq 27 23 st) ∧
  (∀ ls st H, aGo cl none cd_144 0 23 ls st H = aGo cl none cd_144 0 24 ls (.int 1 :: st) H) ∧
  (∀ ls st H, aGo cl none cd_144 0 24 ls st H = aGo cl none cd_144 0 28 ls st H) ∧
  (∀ ls st H, aGo cl none cd_144 0 27 ls st H = aGo cl none cd_144 0 28 ls (.int 0 :: st) H) ∧
  (∀ ls st H, aGo cl none cd_144 0 28 ls st H = aIStore (fun ls st => aGo cl none cd_144 0 29 ls st H) ls 2 st) ∧
  (∀ ls st H, aGo cl none cd_144 0 29 ls st H = aRLoad (fun st => aGo cl none cd_144 0 30 ls st H) ls 0 st) ∧
  (∀ ls st H, aGo cl none cd_144 0 30 ls st H = aGet (fun st => aGo cl none cd_144 0 33 ls st H) 8 0 H st) ∧
  (∀ ls st H, aGo cl none cd_144 0 33 ls st H = aGo cl none cd_144 0 35 ls (.int 120 :: st) H) ∧
  (∀ ls st H, aGo cl none cd_144 0 35 ls st H = aGo cl none cd_144 0 37 ls (.int 125 :: st) H) ∧
  (∀ ls st H, aGo cl none cd_144 0 37 ls st H = aILoad (fun st => aGo cl none cd_144 0 38 ls st H) ls 1 st) ∧
  (∀ ls st H, aGo cl none cd_144 0 38 ls st H = aBin (fun st => aGo cl none cd_144 0 39 ls st H) (fun x y => x * y) st) ∧
  (∀ ls st H, aGo cl none cd_144 0 39 ls st H = aBin (fun st => aGo cl none cd_144 0 40 ls st H) (fun x y => x + y) st) ∧
  (∀ ls st H, aGo cl none cd_144 0 40 ls st H = aGo cl none cd_144 0 41 ls (.int 0 :: st) H) ∧
  (∀ ls st H, aGo cl none cd_144 0 41 ls st H = aIast (fun st H => aGo cl none cd_144 0 42 ls st H) H st) ∧
  (∀ ls st H, aGo cl none cd_144 0 42 ls st H = aILoad (fun st => aGo cl none cd_144 0 43 ls st H) ls 2 st) ∧
  (∀ ls st H, aGo cl none cd_144 0 43 ls st H = aIret 0 st H) :=
  ⟨fun _ _ _ => (aGo_s rfl).trans rfl, fun _ _ _ => (aGo_s rfl).trans rfl, fun _ _ _ => (aGo_s rfl).trans rfl, fun _ _ _ => (aGo_s rfl).trans rfl, fun _ _ _ => (aGo_s rfl).trans rfl, fun _ _ _ => (aGo_s rfl).trans rfl, fun _ _ _ => (aGo_s rfl).trans rfl, fun _ _ _ => (aGo_s rfl).trans rfl, fun _ _ _ => (aGo_s rfl).trans rfl, fun _ _ _ => (aGo_s rfl).trans rfl, fun _ _ _ => (aGo_s rfl).trans rfl, fun _ _ _ => (aGo_s rfl).trans rfl, fun _ _ _ => (aGo_s rfl).trans rfl, fun _ _ _ => (aGo_s rfl).trans rfl, fun _ _ _ => (aGo_s rfl).trans rfl, fun _ _ _ => (aGo_s rfl).trans rfl, fun _ _ _ => (aGo_s rfl).trans rfl, fun _ _ _ => (aGo_s rfl).trans rfl, fun _ _ _ => (aGo_s rfl).trans rfl, fun _ _ _ => (aGo_s rfl).trans rfl, fun _ _ _ => (aGo_s rfl).trans rfl, fun _ _ _ => (aGo_s rfl).trans rfl, fun _ _ _ => (aGo_s rfl).trans rfl, fun _ _ _ => (aGo_s rfl).trans rfl, fun _ _ _ => (aGo_s rfl).trans rfl, fun _ _ _ => (aGo_s rfl).trans rfl, fun _ _ _ => (aGo_s rfl).trans rfl, fun _ _ _ => (aGo_s rfl).trans rfl⟩
theorem e_144 {d : Nat} {x0 : Nat} {x1 : Int32} {H : aH} : aCall aMt (d + 1) 144 [.ref x0, .int x1] H = aGo (aCall aMt d) none cd_144 0 0 [some (.ref x0), some (.int x1), none] [] H := (c_0 rfl ⟨rfl, Nat.le_of_ble_eq_true rfl, Nat.le_of_ble_eq_true rfl⟩).trans rfl
theorem s_145 {cl : Nat → List Value → aH → aRs} : (∀ ls st H, aGo cl none cd_145 0 0 ls st H = aILoad (fun st => aGo cl none cd_145 0 1 ls st H) ls 0 st) ∧
  (∀ ls st H, aGo cl none cd_145 0 1 ls st H = aSwS (fun p st => aGo cl none cd_145 0 p ls st H) [(37, 154), (38, 204), (39, 218), (40, 218), (41, 218), (42, 128), (43, 120), (44, 218), (45, 124), (46, 218), (47, 132), (48, 218), (49, 218), (50, 218), (51, 218), (52, 218), (53, 218), (54, 218), (55, 218), (56, 218), (57, 218), (58, 218), (59, 218), (60, 171), (61, 193), (62, 182)] 218 st) ∧
  (∀ ls st H, aGo cl none cd_145 0 120 ls st H = aILoad (fun st => aGo cl none cd_145 0 121 ls st H) ls 1 st) ∧
  (∀ ls st H, aGo cl none cd_145 0 121 ls st H = aILoad (fun st => aGo cl none cd_145 0 122 ls st H) ls 2 st) ∧
  (∀ ls st H, aGo cl none cd_145 0 122 ls st H = aBin (fun st => aGo cl none cd_145 0 123 ls st H) (fun x y => x + y) st) ∧
  (∀ ls st H, aGo cl none cd_145 0 123 ls st H = aIret 0 st H) ∧
  (∀ ls st H, aGo cl none cd_145 0 124 ls st H = aILoad (fun st => aGo cl none cd_145 0 125 ls st H) ls 1 st) ∧
  (∀ ls st H, aGo cl none cd_145 0 125 ls st H = aILoad (fun st => aGo cl none cd_145 0 126 ls st H) ls 2 st) ∧
  (∀ ls st H, aGo cl none cd_145 0 126 ls st H = aBin (fun st => aGo cl none cd_145 0 127 ls st H) (fun x y => x - y) st) ∧
  (∀ ls st H, aGo cl none cd_145 0 127 ls st H = aIret 0 st H) ∧
  (∀ ls st H, aGo cl none cd_145 0 128 ls st H = aILoad (fun st => aGo cl none cd_145 0 129 ls st H) ls 1 st) ∧
  (∀ ls st H, aGo cl none cd_145 0 129 ls st H = aILoad (fun st => aGo cl none cd_145 0 130 ls st H) ls 2 st) ∧
  (∀ ls st H, aGo cl none cd_145 0 130 ls st H = aBin (fun st => aGo cl none cd_145 0 131 ls st H) (fun x y => x * y) st) ∧
  (∀ ls st H, aGo cl none cd_145 0 131 ls st H = aIret 0 st H) ∧
  (∀ ls st H, aGo cl none cd_145 0 132 ls st H = aILoad (fun st => aGo cl none cd_145 0 133 ls st H) ls 2 st) ∧
  (∀ ls st H, aGo cl none cd_145 0 133 ls st H = aIf (fun p st => aGo cl none cd_145 0 p ls st H) .ne 140 136 st) ∧
  (∀ ls st H, aGo cl none cd_145 0 136 ls st H = aGo cl none cd_145 0 137 ls (.int 0 :: st) H) ∧
  (∀ ls st H, aGo cl none cd_145 0 137 ls st H = aGo cl none cd_145 0 153 ls st H) ∧
  (∀ ls st H, aGo cl none cd_145 0 140 ls st H = aILoad (fun st => aGo cl none cd_145 0 141 ls st H) ls 2 st) ∧
  (∀ ls st H, aGo cl none cd_145 0 141 ls st H = aGo cl none cd_145 0 142 ls (.int (-1) :: st) H) ∧
  (∀ ls st H, aGo cl none cd_145 0 142 ls st H = aIc (fun p st => aGo cl none cd_145 0 p ls st H) .ne 150 145 st) ∧
  (∀ ls st H, aGo cl none cd_145 0 145 ls st H = aILoad (fun st => aGo cl none cd_145 0 146 ls st H) ls 1 st) ∧
  (∀ ls st H, aGo cl none cd_145 0 146 ls st H = aUn (fun st => aGo cl none cd_145 0 147 ls st H) (fun x => -x) st) ∧
  (∀ ls st H, aGo cl none cd_145 0 147 ls st H = aGo cl none cd_145 0 153 ls st H) ∧
  (∀ ls st H, aGo cl none cd_145 0 150 ls st H = aILoad (fun st => aGo cl none cd_145 0 151 ls st H) ls 1 st) ∧
  (∀ ls st H, aGo cl none cd_145 0 151 ls st H = aILoad (fun st => aGo cl none cd_145 0 152 ls st H) ls 2 st) ∧
  (∀ ls st H, aGo cl none cd_145 0 152 ls st H = aDiv (fun st => aGo cl none cd_145 0 153 ls st H) st) ∧
  (∀ ls st H, aGo cl none cd_145 0 153 ls st H = aIret 0 st H) ∧
  (∀ ls st H, aGo cl none cd_145 0 154 ls st H = aILoad (fun st => aGo cl none cd_145 0 155 ls st H) ls 2 st) ∧
  (∀ ls st H, aGo cl none cd_145 0 155 ls st H = aIf (fun p st => aGo cl none cd_145 0 p ls st H) .eq 163 158 st) ∧
  (∀ ls st H, aGo cl none cd_145 0 158 ls st H = aILoad (fun st => aGo cl none cd_145 0 159 ls st H) ls 2 st) ∧
  (∀ ls st H, aGo cl none cd_145 0 159 ls st H = aGo cl none cd_145 0 160 ls (.int (-1) :: st) H) ∧
  (∀ ls st H, aGo cl none cd_145 0 160 ls st H = aIc (fun p st => aGo cl none cd_145 0 p ls st H) .ne 167 163 st) ∧
  (∀ ls st H, aGo cl none cd_145 0 163 ls st H = aGo cl none cd_145 0 164 ls (.int 0 :: st) H) ∧
  (∀ ls st H, aGo cl none cd_145 0 164 ls st H = aGo cl none cd_145 0 170 ls st H) ∧
  (∀ ls st H, aGo cl none cd_145 0 167 ls st H = aILoad (fun st => aGo cl none cd_145 0 168 ls st H) ls 1 st) ∧
  (∀ ls st H, aGo cl none cd_145 0 168 ls st H = aILoad (fun st => aGo cl none cd_145 0 169 ls st H) ls 2 st) ∧
  (∀ ls st H, aGo cl none cd_145 0 169 ls st H = aRem (fun st => aGo cl none cd_145 0 170 ls st H) st) ∧
  (∀ ls st H, aGo cl none cd_145 0 170 ls st H = aIret 0 st H) ∧
  (∀ ls st H, aGo cl none cd_145 0 171 ls st H = aILoad (fun st => aGo cl none cd_145 0 172 ls st H) ls 1 st) ∧
  (∀ ls st H, aGo cl none cd_145 0 172 ls st H = aILoad (fun st => aGo cl none cd_145 0 173 ls st H) ls 2 st) ∧
  (∀ ls st H, aGo cl none cd_145 0 173 ls st H = aIc (fun p st => aGo cl none cd_145 0 p ls st H) .ge 180 176 st) ∧
  (∀ ls st H, aGo cl none cd_145 0 176 ls st H = aGo cl none cd_145 0 177 ls (.int 1 :: st) H) ∧
  (∀ ls st H, aGo cl none cd_145 0 177 ls st H = aGo cl none cd_145 0 181 ls st H) ∧
  (∀ ls st H, aGo cl none cd_145 0 180 ls st H = aGo cl none cd_145 0 181 ls (.int 0 :: st) H) ∧
  (∀ ls st H, aGo cl none cd_145 0 181 ls st H = aIret 0 st H) ∧
  (∀ ls st H, aGo cl none cd_145 0 182 ls st H = aILoad (fun st => aGo cl none cd_145 0 183 ls st H) ls 1 st) ∧
  (∀ ls st H, aGo cl none cd_145 0 183 ls st H = aILoad (fun st => aGo cl none cd_145 0 184 ls st H) ls 2 st) ∧
  (∀ ls st H, aGo cl none cd_145 0 184 ls st H = aIc (fun p st => aGo cl none cd_145 0 p ls st H) .le 191 187 st) ∧
  (∀ ls st H, aGo cl none cd_145 0 187 ls st H = aGo cl none cd_145 0 188 ls (.int 1 :: st) H) ∧
  (∀ ls st H, aGo cl none cd_145 0 188 ls st H = aGo cl none cd_145 0 192 ls st H) ∧
  (∀ ls st H, aGo cl none cd_145 0 191 ls st H = aGo cl none cd_145 0 192 ls (.int 0 :: st) H) ∧
  (∀ ls st H, aGo cl none cd_145 0 192 ls st H = aIret 0 st H) ∧
  (∀ ls st H, aGo cl none cd_145 0 193 ls st H = aILoad (fun st => aGo cl none cd_145 0 194 ls st H) ls 1 st) ∧
  (∀ ls st H, aGo cl none cd_145 0 194 ls st H = aILoad (fun st => aGo cl none cd_145 0 195 ls st H) ls 2 st) ∧
  (∀ ls st H, aGo cl none cd_145 0 195 ls st H = aIc (fun p st => aGo cl none cd_145 0 p ls st H) .ne 202 198 st) ∧
  (∀ ls st H, aGo cl none cd_145 0 198 ls st H = aGo cl none cd_145 0 199 ls (.int 1 :: st) H) ∧
  (∀ ls st H, aGo cl none cd_145 0 199 ls st H = aGo cl none cd_145 0 203 ls st H) ∧
  (∀ ls st H, aGo cl none cd_145 0 202 ls st H = aGo cl none cd_145 0 203 ls (.int 0 :: st) H) ∧
  (∀ ls st H, aGo cl none cd_145 0 203 ls st H = aIret 0 st H) ∧
  (∀ ls st H, aGo cl none cd_145 0 204 ls st H = aILoad (fun st => aGo cl none cd_145 0 205 ls st H) ls 1 st) ∧
  (∀ ls st H, aGo cl none cd_145 0 205 ls st H = aIf (fun p st => aGo cl none cd_145 0 p ls st H) .eq 216 208 st) ∧
  (∀ ls st H, aGo cl none cd_145 0 208 ls st H = aILoad (fun st => aGo cl none cd_145 0 209 ls st H) ls 2 st) ∧
  (∀ ls st H, aGo cl none cd_145 0 209 ls st H = aIf (fun p st => aGo cl none cd_145 0 p ls st H) .eq 216 212 st) ∧
  (∀ ls st H, aGo cl none cd_145 0 212 ls st H = aGo cl none cd_145 0 213 ls (.int 1 :: st) H) ∧
  (∀ ls st H, aGo cl none cd_145 0 213 ls st H = aGo cl none cd_145 0 217 ls st H) ∧
  (∀ ls st H, aGo cl none cd_145 0 216 ls st H = aGo cl none cd_145 0 217 ls (.int 0 :: st) H) ∧
  (∀ ls st H, aGo cl none cd_145 0 217 ls st H = aIret 0 st H) ∧
  (∀ ls st H, aGo cl none cd_145 0 218 ls st H = aILoad (fun st => aGo cl none cd_145 0 219 ls st H) ls 1 st) ∧
  (∀ ls st H, aGo cl none cd_145 0 219 ls st H = aIf (fun p st => aGo cl none cd_145 0 p ls st H) .ne 226 222 st) ∧
  (∀ ls st H, aGo cl none cd_145 0 222 ls st H = aILoad (fun st => aGo cl none cd_145 0 223 ls st H) ls 2 st) ∧
  (∀ ls st H, aGo cl none cd_145 0 223 ls st H = aIf (fun p st => aGo cl none cd_145 0 p ls st H) .eq 230 226 st) ∧
  (∀ ls st H, aGo cl none cd_145 0 226 ls st H = aGo cl none cd_145 0 227 ls (.int 1 :: st) H) ∧
  (∀ ls st H, aGo cl none cd_145 0 227 ls st H = aGo cl none cd_145 0 231 ls st H) ∧
  (∀ ls st H, aGo cl none cd_145 0 230 ls st H = aGo cl none cd_145 0 231 ls (.int 0 :: st) H) ∧
  (∀ ls st H, aGo cl none cd_145 0 231 ls st H = aIret 0 st H) :=
  ⟨fun _ _ _ => (aGo_s rfl).trans rfl, fun _ _ _ => (aGo_s rfl).trans rfl, fun _ _ _ => (aGo_s rfl).trans rfl, fun _ _ _ => (aGo_s rfl).trans rfl, fun _ _ _ => (aGo_s rfl).trans rfl, fun _ _ _ => (aGo_s rfl).trans rfl, fun _ _ _ => (aGo_s rfl).trans rfl, fun _ _ _ => (aGo_s rfl).trans rfl, fun _ _ _ => (aGo_s rfl).trans rfl, fun _ _ _ => (aGo_s rfl).trans rfl, fun _ _ _ => (aGo_s rfl).trans rfl, fun _ _ _ => (aGo_s rfl).trans rfl, fun _ _ _ => (aGo_s rfl).trans rfl, fun _ _ _ => (aGo_s rfl).trans rfl, fun _ _ _ => (aGo_s rfl).trans rfl, fun _ _ _ => (aGo_s rfl).trans rfl, fun _ _ _ => (aGo_s rfl).trans rfl, fun _ _ _ => (aGo_s rfl).trans rfl, fun _ _ _ => (aGo_s rfl).trans rfl, fun _ _ _ => (aGo_s rfl).trans rfl, fun _ _ _ => (aGo_s rfl).trans rfl, fun _ _ _ => (aGo_s rfl).trans rfl, fun _ _ _ => (aGo_s rfl).trans rfl, fun _ _ _ => (aGo_s rfl).trans rfl, fun _ _ _ => (aGo_s rfl).trans rfl, fun _ _ _ => (aGo_s rfl).trans rfl, fun _ _ _ => (aGo_s rfl).trans rfl, fun _ _ _ => (aGo_s rfl).trans rfl, fun _ _ _ => (aGo_s rfl).trans rfl, fun _ _ _ => (aGo_s rfl).trans rfl, fun _ _ _ => (aGo_s rfl).trans rfl, fun _ _ _ => (aGo_s rfl).trans rfl, fun _ _ _ => (aGo_s rfl).trans rfl, fun _ _ _ => (aGo_s rfl).trans rfl, fun _ _ _ => (aGo_s rfl).trans rfl, fun _ _ _ => (aGo_s rfl).trans rfl, fun _ _ _ => (aGo_s rfl).trans rfl, fun _ _ _ => (aGo_s rfl).trans rfl, fun _ _ _ => (aGo_s rfl).trans rfl, fun _ _ _ => (aGo_s rfl).trans rfl, fun _ _ _ => (aGo_s rfl).trans rfl, fun _ _ _ => (aGo_s rfl).trans rfl, fun _ _ _ => (aGo_s rfl).trans rfl, fun _ _ _ => (aGo_s rfl).trans rfl, fun _ _ _ => (aGo_s rfl).trans rfl, fun _ _ _ => (aGo_s rfl).trans rfl, fun _ _ _ => (aGo_s rfl).trans rfl, fun _ _ _ => (aGo_s rfl).trans rfl, fun _ _ _ => (aGo_s rfl).trans rfl, fun _ _ _ => (aGo_s rfl).trans rfl, fun _ _ _ => (aGo_s rfl).trans rfl, fun _ _ _ => (aGo_s rfl).trans rfl, fun _ _ _ => (aGo_s rfl).trans rfl, fun _ _ _ => (aGo_s rfl).trans rfl, fun _ _ _ => (aGo_s rfl).trans rfl, fun _ _ _ => (aGo_s rfl).trans rfl, fun _ _ _ => (aGo_s rfl).trans rfl, fun _ _ _ => (aGo_s rfl).trans rfl, fun _ _ _ => (aGo_s rfl).trans rfl, fun _ _ _ => (aGo_s rfl).trans rfl, fun _ _ _ => (aGo_s rfl).trans rfl, fun _ _ _ => (aGo_s rfl).trans rfl, fun _ _ _ => (aGo_s rfl).trans rfl, fun _ _ _ => (aGo_s rfl).trans rfl, fun _ _ _ => (aGo_s rfl).trans rfl, fun _ _ _ => (aGo_s rfl).trans rfl, fun _ _ _ => (aGo_s rfl).trans rfl, fun _ _ _ => (aGo_s rfl).trans rfl, fun _ _ _ => (aGo_s rfl).trans rfl, fun _ _ _ => (aGo_s rfl).trans rfl, fun _ _ _ => (aGo_s rfl).trans rfl, fun _ _ _ => (aGo_s rfl).trans rfl, fun _ _ _ => (aGo_s rfl).trans rfl, fun _ _ _ => (aGo_s rfl).trans rfl, fun _ _ _ => (aGo_s rfl).trans rfl, fun _ _ _ => (aGo_s rfl).trans rfl⟩
theorem e_145 {d : Nat} {x0 : Int32} {x1 : Int32} {x2 : Int32} {H : aH} : aCall aMt (d + 1) 145 [.int x0, .int x1, .int x2] H = aGo (aCall aMt d) none cd_145 0 0 [some (.int x0), some (.int x1), some (.int x2)] [] H := (c_0 rfl ⟨rfl, Nat.le_of_ble_eq_true rfl, Nat.le_of_ble_eq_true rfl⟩).trans rfl
theorem s_146 {cl : Nat → List Value → aH → aRs} : (∀ ls st H, aGo cl none cd_146 0 0 ls st H = aGo cl none cd_146 0 2 ls (.int 120 :: st) H) ∧
  (∀ ls st H, aGo cl none cd_146 0 2 ls st H = aGo cl none cd_146 0 4 ls (.int 125 :: st) H) ∧
  (∀ ls st H, aGo cl none cd_146 0 4 ls st H = aILoad (fun st => aGo cl none cd_146 0 5 ls st H) ls 1 st) ∧
  (∀ ls st H, aGo cl none cd_146 0 5 ls st H = aBin (fun st => aGo cl none cd_146 0 6 ls st H) (fun x y => x * y) st) ∧
  (∀ ls st H, aGo cl none cd_146 0 6 ls st H = aBin (fun st => aGo cl none cd_146 0 7 ls st H) (fun x y => x + y) st) ∧
  (∀ ls st H, aGo cl none cd_146 0 7 ls st H = aIStore (fun ls st => aGo cl none cd_146 0 8 ls st H) ls 2 st) ∧
  (∀ ls st H, aGo cl none cd_146 0 8 ls st H = aGo cl none cd_146 0 9 ls (.int 0 :: st) H) ∧
  (∀ ls st H, aGo cl none cd_146 0 9 ls st H = aIStore (fun ls st => aGo cl none cd_146 0 10 ls st H) ls 3 st) ∧
  (∀ ls st H, aGo cl none cd_146 0 10 ls st H = aGo cl none cd_146 0 11 ls (.int 0 :: st) H) ∧
  (∀ ls st H, aGo cl none cd_146 0 11 ls st H = aIStore (fun ls st => aGo cl none cd_146 0 13 ls st H) ls 4 st) ∧
  (∀ ls st H, aGo cl none cd_146 0 15 ls st H = aRLoad (fun st => aGo cl none cd_146 0 16 ls st H) ls 0 st) ∧
  (∀ ls st H, aGo cl none cd_146 0 16 ls st H = aGet (fun st => aGo cl none cd_146 0 19 ls st H) 8 0 H st) ∧
  (∀ ls st H, aGo cl none cd_146 0 19 ls st H = aILoad (fun st => aGo cl none cd_146 0 20 ls st H) ls 2 st) ∧
  (∀ ls st H, aGo cl none cd_146 0 20 ls st H = aIald (fun st => aGo cl none cd_146 0 21 ls st H) none H st) ∧
  (∀ ls st H, aGo cl none cd_146 0 21 ls st H = aIc (fun p st => aGo cl none cd_146 0 p ls st H) .ge 163 24 st) ∧
  (∀ ls st H, aGo cl none cd_146 0 24 ls st H = aRLoad (fun st => aGo cl none cd_146 0 25 ls st H) ls 0 st) ∧
  (∀ ls st H, aGo cl none cd_146 0 25 ls st H = aGet (fun st => aGo cl none cd_146 0 28 ls st H) 8 0 H st) ∧
  (∀ ls st H, aGo cl none cd_146 0 28 ls st H = aILoad (fun st => aGo cl none cd_146 0 29 ls st H) ls 2 st) ∧
  (∀ ls st H, aGo cl none cd_146 0 29 ls st H = aGo cl none cd_146 0 30 ls (.int 1 :: st) H) ∧
  (∀ ls st H, aGo cl none cd_146 0 30 ls st H = aBin (fun st => aGo cl none cd_146 0 31 ls st H) (fun x y => x + y) st) ∧
  (∀ ls st H, aGo cl none cd_146 0 31 ls st H = aGo cl none cd_146 0 32 ls (.int 2 :: st) H) ∧
  (∀ ls st H, aGo cl none cd_146 0 32 ls st H = aILoad (fun st => aGo cl none cd_146 0 34 ls st H) ls 4 st) ∧
  (∀ ls st H, aGo cl none cd_146 0 34 ls st H = aBin (fun st => aGo cl none cd_146 0 35 ls st H) (fun x y => x * y) st) ∧
  (∀ ls st H, aGo cl none cd_146 0 35 ls st H = aBin (fun st => aGo cl none cd_146 0 36 ls st H) (fun x y => x + y) st) ∧
  (∀ ls st H, aGo cl none cd_146 0 36 ls st H = aIald (fun st => aGo cl none cd_146 0 37 ls st H) none H st) ∧
  (∀ ls st H, aGo cl none cd_146 0 37 ls st H = aIStore (fun ls st => aGo cl none cd_146 0 39 ls st H) ls 5 st) ∧
  (∀ ls st H, aGo cl none cd_146 0 39 ls st H = aRLoad (fun st => aGo cl none cd_146 0 40 ls st H) ls 0 st) ∧
  (∀ ls st H, aGo cl none cd_146 0 40 ls st H = aGet (fun st => aGo cl none cd_146 0 43 ls st H) 8 0 H st) ∧
  (∀ ls st H, aGo cl none cd_146 0 43 ls st H = aILoad (fun st => aGo cl none cd_146 0 44 ls st H) ls 2 st) ∧
  (∀ ls st H, aGo cl none cd_146 0 44 ls st H = aGo cl none cd_146 0 45 ls (.int 2 :: st) H) ∧
  (∀ ls st H, aGo cl none cd_146 0 45 ls st H = aBin (fun st => aGo cl none cd_146 0 46 ls st H) (fun x y => x + y) st) ∧
  (∀ ls st H, aGo cl none cd_146 0 46 ls st H = aGo cl none cd_146 0 47 ls (.int 2 :: st) H) ∧
  (∀ ls st H, aGo cl none cd_146 0 47 ls st H = aILoad (fun st => aGo cl none cd_146 0 49 ls st H) ls 4 st) ∧
  (∀ ls st H, aGo cl none cd_146 0 49 ls st H = aBin (fun st => aGo cl none cd_146 0 50 ls st H) (fun x y => x * y) st) ∧
  (∀ ls st H, aGo cl none cd_146 0 50 ls st H = aBin (fun st => aGo cl none cd_146 0 51 ls st H) (fun x y => x + y) st) ∧
  (∀ ls st H, aGo cl none cd_146 0 51 ls st H = aIald (fun st => aGo cl none cd_146 0 52 ls st H) none H st) ∧
  (∀ ls st H, aGo cl none cd_146 0 52 ls st H = aIStore (fun ls st => aGo cl none cd_146 0 54 ls st H) ls 6 st) ∧
  (∀ ls st H, aGo cl none cd_146 0 54 ls st H = aILoad (fun st => aGo cl none cd_146 0 56 ls st H) ls 5 st) ∧
  (∀ ls st H, aGo cl none cd_146 0 56 ls st H = aIf (fun p st => aGo cl none cd_146 0 p ls st H) .eq 65 59 st) ∧
  (∀ ls st H, aGo cl none cd_146 0 59 ls st H = aILoad (fun st => aGo cl none cd_146 0 61 ls st H) ls 5 st) ∧
  (∀ ls st H, aGo cl none cd_146 0 61 ls st H = aGo cl none cd_146 0 62 ls (.int 1 :: st) H) ∧
  (∀ ls st H, aGo cl none cd_146 0 62 ls st H = aIc (fun p st => aGo cl none cd_146 0 p ls st H) .ne 94 65 st) ∧
  (∀ ls st H, aGo cl none cd_146 0 65 ls st H = aRLoad (fun st => aGo cl none cd_146 0 66 ls st H) ls 0 st) ∧
  (∀ ls st H, aGo cl none cd_146 0 66 ls st H = aGet (fun st => aGo cl none cd_146 0 69 ls st H) 8 11 H st) ∧
  (∀ ls st H, aGo cl none cd_146 0 69 ls st H = aILoad (fun st => aGo cl none cd_146 0 70 ls st H) ls 3 st) ∧
  (∀ ls st H, aGo cl none cd_146 0 70 ls st H = aILoad (fun st => aGo cl none cd_146 0 72 ls st H) ls 5 st) ∧
  (∀ ls st H, aGo cl none cd_146 0 72 ls st H = aIf (fun p st => aGo cl none cd_146 0 p ls st H) .ne 80 75 st) ∧
  (∀ ls st H, aGo cl none cd_146 0 75 ls st H = aILoad (fun st => aGo cl none cd_146 0 77 ls st H) ls 6 st) ∧
  (∀ ls st H, aGo cl none cd_146 0 77 ls st H = aGo cl none cd_146 0 87 ls st H) ∧
  (∀ ls st H, aGo cl none cd_146 0 80 ls st H = aRLoad (fun st => aGo cl none cd_146 0 81 ls st H) ls 0 st) ∧
  (∀ ls st H, aGo cl none cd_146 0 81 ls st H = aGet (fun st => aGo cl none cd_146 0 84 ls st H) 8 10 H st) ∧
  (∀ ls st H, aGo cl none cd_146 0 84 ls st H = aILoad (fun st => aGo cl none cd_146 0 86 ls st H) ls 6 st) ∧
  (∀ ls st H, aGo cl none cd_146 0 86 ls st H = aIald (fun st => aGo cl none cd_146 0 87 ls st H) none H st) ∧
  (∀ ls st H, aGo cl none cd_146 0 87 ls st H = aIast (fun st H => aGo cl none cd_146 0 88 ls st H) H st) ∧
  (∀ ls st H, aGo cl none cd_146 0 88 ls st H = aInc (fun ls => aGo cl none cd_146 0 91 ls st H) ls 3 1) ∧
  (∀ ls st H, aGo cl none cd_146 0 91 ls st H = aGo cl none cd_146 0 157 ls st H) ∧
  (∀ ls st H, aGo cl none cd_146 0 94 ls st H = aILoad (fun st => aGo cl none cd_146 0 96 ls st H) ls 5 st) ∧
  (∀ ls st H, aGo cl none cd_146 0 96 ls st H = aGo cl none cd_146 0 97 ls (.int 2 :: st) H) ∧
  (∀ ls st H, aGo cl none cd_146 0 97 ls st H = aIc (fun p st => aGo cl none cd_146 0 p ls st H) .ne 127 100 st) ∧
  (∀ ls st H, aGo cl none cd_146 0 100 ls st H = aRLoad (fun st => aGo cl none cd_146 0 101 ls st H) ls 0 st) ∧
  (∀ ls st H, aGo cl none cd_146 0 101 ls st H = aGet (fun st => aGo cl none cd_146 0 104 ls st H) 8 11 H st) ∧
  (∀ ls st H, aGo cl none cd_146 0 104 ls st H = aILoad (fun st => aGo cl none cd_146 0 105 ls st H) ls 3 st) ∧
  (∀ ls st H, aGo cl none cd_146 0 105 ls st H = aGo cl none cd_146 0 106 ls (.int 1 :: st) H) ∧
  (∀ ls st H, aGo cl none cd_146 0 106 ls st H = aBin (fun st => aGo cl none cd_146 0 107 ls st H) (fun x y => x - y) st) ∧
  (∀ ls st H, aGo cl none cd_146 0 107 ls st H = aRLoad (fun st => aGo cl none cd_146 0 108 ls st H) ls 0 st) ∧
  (∀ ls st H, aGo cl none cd_146 0 108 ls st H = aGet (fun st => aGo cl none cd_146 0 111 ls st H) 8 11 H st) ∧
  (∀ ls st H, aGo cl none cd_146 0 111 ls st H = aILoad (fun st => aGo cl none cd_146 0 112 ls st H) ls 3 st) ∧
  (∀ ls st H, aGo cl none cd_146 0 112 ls st H = aGo cl none cd_146 0 113 ls (.int 1 :: st) H) ∧
  (∀ ls st H, aGo cl none cd_146 0 113 ls st H = aBin (fun st => aGo cl none cd_146 0 114 ls st H) (fun x y => x - y) st) ∧
  (∀ ls st H, aGo cl none cd_146 0 114 ls st H = aIald (fun st => aGo cl none cd_146 0 115 ls st H) none H st) ∧
  (∀ ls st H, aGo cl none cd_146 0 115 ls st H = aIf (fun p st => aGo cl none cd_146 0 p ls st H) .ne 122 118 st) ∧
  (∀ ls st H, aGo cl none cd_146 0 118 ls st H = aGo cl none cd_146 0 119 ls (.int 1 :: st) H) ∧
  (∀ ls st H, aGo cl none cd_146 0 119 ls st H = aGo cl none cd_146 0 123 ls st H) ∧
  (∀ ls st H, aGo cl none cd_146 0 122 ls st H = aGo cl none cd_146 0 123 ls (.int 0 :: st) H) ∧
  (∀ ls st H, aGo cl none cd_146 0 123 ls st H = aIast (fun st H => aGo cl none cd_146 0 124 ls st H) H st) ∧
  (∀ ls st H, aGo cl none cd_146 0 124 ls st H = aGo cl none cd_146 0 157 ls st H) ∧
  (∀ ls st H, aGo cl none cd_146 0 127 ls st H = aInc (fun ls => aGo cl none cd_146 0 130 ls st H) ls 3 (-1)) ∧
  (∀ ls st H, aGo cl none cd_146 0 130 ls st H = aRLoad (fun st => aGo cl none cd_146 0 131 ls st H) ls 0 st) ∧
  (∀ ls st H, aGo cl none cd_146 0 131 ls st H = aGet (fun st => aGo cl none cd_146 0 134 ls st H) 8 11 H st) ∧
  (∀ ls st H, aGo cl none cd_146 0 134 ls st H = aILoad (fun st => aGo cl none cd_146 0 135 ls st H) ls 3 st) ∧
  (∀ ls st H, aGo cl none cd_146 0 135 ls st H = aGo cl none cd_146 0 136 ls (.int 1 :: st) H) ∧
  (∀ ls st H, aGo cl none cd_146 0 136 ls st H = aBin (fun st => aGo cl none cd_146 0 137 ls st H) (fun x y => x - y) st) ∧
  (∀ ls st H, aGo cl none cd_146 0 137 ls st H = aILoad (fun st => aGo cl none cd_146 0 139 ls st H) ls 6 st) ∧
  (∀ ls st H, aGo cl none cd_146 0 139 ls st H = aRLoad (fun st => aGo cl none cd_146 0 140 ls st H) ls 0 st) ∧
  (∀ ls st H, aGo cl none cd_146 0 140 ls st H = aGet (fun st => aGo cl none cd_146 0 143 ls st H) 8 11 H st) ∧
  (∀ ls st H, aGo cl none cd_146 0 143 ls st H = aILoad (fun st => aGo cl none cd_146 0 144 ls st H) ls 3 st) ∧
  (∀ ls st H, aGo cl none cd_146 0 144 ls st H = aGo cl none cd_146 0 145 ls (.int 1 :: st) H) ∧
  (∀ ls st H, aGo cl none cd_146 0 145 ls st H = aBin (fun st => aGo cl none cd_146 0 146 ls st H) (fun x y => x - y) st) ∧
  (∀ ls st H, aGo cl none cd_146 0 146 ls st H = aIald (fun st => aGo cl none cd_146 0 147 ls st H) none H st) ∧
  (∀ ls st H, aGo cl none cd_146 0 147 ls st H = aRLoad (fun st => aGo cl none cd_146 0 148 ls st H) ls 0 st) ∧
  (∀ ls st H, aGo cl none cd_146 0 148 ls st H = aGet (fun st => aGo cl none cd_146 0 151 ls st H) 8 11 H st) ∧
  (∀ ls st H, aGo cl none cd_146 0 151 ls st H = aILoad (fun st => aGo cl none cd_146 0 152 ls st H) ls 3 st) ∧
  (∀ ls st H, aGo cl none cd_146 0 152 ls st H = aIald (fun st => aGo cl none cd_146 0 153 ls st H) none H st) ∧
  (∀ ls st H, aGo cl none cd_146 0 153 ls st H = aCallI (fun st H => aGo cl none cd_146 0 156 ls st H) cl 145 3 H st) ∧
  (∀ ls st H, aGo cl none cd_146 0 156 ls st H = aIast (fun st H => aGo cl none cd_146 0 157 ls st H) H st) ∧
  (∀ ls st H, aGo cl none cd_146 0 157 ls st H = aInc (fun ls => aGo cl none cd_146 0 160 ls st H) ls 4 1) ∧
  (∀ ls st H, aGo cl none cd_146 0 160 ls st H = aGo cl none cd_146 0 13 ls st H) ∧
  (∀ ls st H, aGo cl none cd_146 0 163 ls st H = aRLoad (fun st => aGo cl none cd_146 0 164 ls st H) ls 0 st) ∧
  (∀ ls st H, aGo cl none cd_146 0 164 ls st H = aGet (fun st => aGo cl none cd_146 0 167 ls st H) 8 11 H st) ∧
  (∀ ls st H, aGo cl none cd_146 0 167 ls st H = aGo cl none cd_146 0 168 ls (.int 0 :: st) H) ∧
  (∀ ls st H, aGo cl none cd_146 0 168 ls st H = aIald (fun st => aGo cl none cd_146 0 169 ls st H) none H st) ∧
  (∀ ls st H, aGo cl none cd_146 0 169 ls st H = aIret 0 st H) :=
  ⟨fun _ _ _ => (aGo_s rfl).trans rfl, fun _ _ _ => (aGo_s rfl).trans rfl, fun _ _ _ => (aGo_s rfl).trans rfl, fun _ _ _ => (aGo_s rfl).trans rfl, fun _ _ _ => (aGo_s rfl).trans rfl, fun _ _ _ => (aGo_s rfl).trans rfl, fun _ _ _ => (aGo_s rfl).trans rfl, fun _ _ _ => (aGo_s rfl).trans rfl, fun _ _ _ => (aGo_s rfl).trans rfl, fun _ _ _ => (aGo_s rfl).trans rfl, fun _ _ _ => (aGo_s rfl).trans rfl, fun _ _ _ => (aGo_s rfl).trans rfl, fun _ _ _ => (aGo_s rfl).trans rfl, fun _ _ _ => (aGo_s rfl).trans rfl, fun _ _ _ => (aGo_s rfl).trans rfl, fun _ _ _ => (aGo_s rfl).trans rfl, fun _ _ _ => (aGo_s rfl).trans rfl, fun _ _ _ => (aGo_s rfl).trans rfl, fun _ _ _ => (aGo_s rfl).trans rfl, fun _ _ _ => (aGo_s rfl).trans rfl, fun _ _ _ => (aGo_s rfl).trans rfl, fun _ _ _ => (aGo_s rfl).trans rfl, fun _ _ _ => (aGo_s rfl).trans rfl, fun _ _ _ => (aGo_s rfl).trans rfl, fun _ _ _ => (aGo_s rfl).trans rfl, fun _ _ _ => (aGo_s rfl).trans rfl, fun _ _ _ => (aGo_s rfl).trans rfl, fun _ _ _ => (aGo_s rfl).trans rfl, fun _ _ _ => (aGo_s rfl).trans rfl, fun _ _ _ => (aGo_s rfl).trans rfl, fun _ _ _ => (aGo_s rfl).trans rfl, fun _ _ _ => (aGo_s rfl).trans rfl, fun _ _ _ => (aGo_s rfl).trans rfl, fun _ _ _ => (aGo_s rfl).trans rfl, fun _ _ _ => (aGo_s rfl).trans rfl, fun _ _ _ => (aGo_s rfl).trans rfl, fun _ _ _ => (aGo_s rfl).trans rfl, fun _ _ _ => (aGo_s rfl).trans rfl, fun _ _ _ => (aGo_s rfl).trans rfl, fun _ _ _ => (aGo_s rfl).trans rfl, fun _ _ _ => (aGo_s rfl).trans rfl, fun _ _ _ => (aGo_s rfl).trans rfl, fun _ _ _ => (aGo_s rfl).trans rfl, fun _ _ _ => (aGo_s rfl).trans rfl, fun _ _ _ => (aGo_s rfl).trans rfl, fun _ _ _ => (aGo_s rfl).trans rfl, fun _ _ _ => (aGo_s rfl).trans rfl, fun _ _ _ => (aGo_s rfl).trans rfl, fun _ _ _ => (aGo_s rfl).trans rfl, fun _ _ _ => (aGo_s rfl).trans rfl, fun _ _ _ => (aGo_s rfl).trans rfl, fun _ _ _ => (aGo_s rfl).trans rfl, fun _ _ _ => (aGo_s rfl).trans rfl, fun _ _ _ => (aGo_s rfl).trans rfl, fun _ _ _ => (aGo_s rfl).trans rfl, fun _ _ _ => (aGo_s rfl).trans rfl, fun _ _ _ => (aGo_s rfl).trans rfl, fun _ _ _ => (aGo_s rfl).trans rfl, fun _ _ _ => (aGo_s rfl).trans rfl, fun _ _ _ => (aGo_s rfl).trans rfl, fun _ _ _ => (aGo_s rfl).trans rfl, fun _ _ _ => (aGo_s rfl).trans rfl, fun _ _ _ => (aGo_s rfl).trans rfl, fun _ _ _ => (aGo_s rfl).trans rfl, fun _ _ _ => (aGo_s rfl).trans rfl, fun _ _ _ => (aGo_s rfl).trans rfl, fun _ _ _ => (aGo_s rfl).trans rfl, fun _ _ _ => (aGo_s rfl).trans rfl, fun _ _ _ => (aGo_s rfl).trans rfl, fun _ _ _ => (aGo_s rfl).trans rfl, fun _ _ _ => (aGo_s rfl).trans rfl, fun _ _ _ => (aGo_s rfl).trans rfl, fun _ _ _ => (aGo_s rfl).trans rfl, fun _ _ _ => (aGo_s rfl).trans rfl, fun _ _ _ => (aGo_s rfl).trans rfl, fun _ _ _ => (aGo_s rfl).trans rfl, fun _ _ _ => (aGo_s rfl).trans rfl, fun _ _ _ => (aGo_s rfl).trans rfl, fun _ _ _ => (aGo_s rfl).trans rfl, fun _ _ _ => (aGo_s rfl).trans rfl, fun _ _ _ => (aGo_s rfl).trans rfl, fun _ _ _ => (aGo_s rfl).trans rfl, fun _ _ _ => (aGo_s rfl).trans rfl, fun _ _ _ => (aGo_s rfl).trans rfl, fun _ _ _ => (aGo_s rfl).trans rfl, fun _ _ _ => (aGo_s rfl).trans rfl, fun _ _ _ => (aGo_s rfl).trans rfl, fun _ _ _ => (aGo_s rfl).trans rfl, fun _ _ _ => (aGo_s rfl).trans rfl, fun _ _ _ => (aGo_s rfl).trans rfl, fun _ _ _ => (aGo_s rfl).trans rfl, fun _ _ _ => (aGo_s rfl).trans rfl, fun _ _ _ => (aGo_s rfl).trans rfl, fun _ _ _ => (aGo_s rfl).trans rfl, fun _ _ _ => (aGo_s rfl).trans rfl, fun _ _ _ => (aGo_s rfl).trans rfl, fun _ _ _ => (aGo_s rfl).trans rfl, fun _ _ _ => (aGo_s rfl).trans rfl, fun _ _ _ => (aGo_s rfl).trans rfl, fun _ _ _ => (aGo_s rfl).trans rfl, fun _ _ _ => (aGo_s rfl).trans rfl, fun _ _ _ => (aGo_s rfl).trans rfl⟩
theorem s_146_13 {cl : Nat → List Value → aH → aRs} : ∀ ls st H, aGo cl none cd_146 0 13 ls st H = aILoad (fun st => aGo cl none cd_146 0 15 ls st H) ls 4 st := fun _ _ _ => (aGo_s rfl).trans rfl
theorem e_146 {d : Nat} {x0 : Nat} {x1 : Int32} {H : aH} : aCall aMt (d + 1) 146 [.ref x0, .int x1] H = aGo (aCall aMt d) none cd_146 0 0 [some (.ref x0), some (.int x1), none, none, none, none, none] [] H := (c_0 rfl ⟨rfl, Nat.le_of_ble_eq_true rfl, Nat.le_of_ble_eq_true rfl⟩).trans rfl
theorem s_147 {cl : Nat → List Value → aH → aRs} : (∀ ls st H, aGo cl none cd_147 0 0 ls st H = aRLoad (fun st => aGo cl none cd_147 0 1 ls st H) ls 0 st) ∧
  (∀ ls st H, aGo cl none cd_147 0 1 ls st H = aGet (fun st => aGo cl none cd_147 0 4 ls st H) 8 10 H st) ∧
  (∀ ls st H, aGo cl none cd_147 0 4 ls st H = aGo cl none cd_147 0 6 ls (.int 108 :: st) H) ∧
  (∀ ls st H, aGo cl none cd_147 0 6 ls st H = aILoad (fun st => aGo cl none cd_147 0 7 ls st H) ls 1 st) ∧
  (∀ ls st H, aGo cl none cd_147 0 7 ls st H = aIast (fun st H => aGo cl none cd_147 0 8 ls st H) H st) ∧
  (∀ ls st H, aGo cl none cd_147 0 8 ls st H = aRLoad (fun st => aGo cl none cd_147 0 9 ls st H) ls 0 st) ∧
  (∀ ls st H, aGo cl none cd_147 0 9 ls st H = aGet (fun st => aGo cl none cd_147 0 12 ls st H) 8 10 H st) ∧
  (∀ ls st H, aGo cl none cd_147 0 12 ls st H = aGo cl none cd_147 0 14 ls (.int 111 :: st) H) ∧
  (∀ ls st H, aGo cl none cd_147 0 14 ls st H = aILoad (fun st => aGo cl none cd_147 0 15 ls st H) ls 2 st) ∧
  (∀ ls st H, aGo cl none cd_147 0 15 ls st H = aIast (fun st H => aGo cl none cd_147 0 16 ls st H) H st) ∧
  (∀ ls st H, aGo cl none cd_147 0 16 ls st H = aRLoad (fun st => aGo cl none cd_147 0 17 ls st H) ls 0 st) ∧
  (∀ ls st H, aGo cl none cd_147 0 17 ls st H = aGet (fun st => aGo cl none cd_147 0 20 ls st H) 8 10 H st) ∧
  (∀ ls st H, aGo cl none cd_147 0 20 ls st H = aGo cl none cd_147 0 22 ls (.int 97 :: st) H) ∧
  (∀ ls st H, aGo cl none cd_147 0 22 ls st H = aILoad (fun st => aGo cl none cd_147 0 23 ls st H) ls 3 st) ∧
  (∀ ls st H, aGo cl none cd_147 0 23 ls st H = aIast (fun st H => aGo cl none cd_147 0 24 ls st H) H st) ∧
  (∀ ls st H, aGo cl none cd_147 0 24 ls st H = aRLoad (fun st => aGo cl none cd_147 0 25 ls st H) ls 0 st) ∧
  (∀ ls st H, aGo cl none cd_147 0 25 ls st H = aGo cl none cd_147 0 26 ls (.int 0 :: st) H) ∧
  (∀ ls st H, aGo cl none cd_147 0 26 ls st H = aCallV (fun st H => aGo cl none cd_147 0 29 ls st H) cl 142 1 8 H st) ∧
  (∀ ls st H, aGo cl none cd_147 0 29 ls st H = aIf (fun p st => aGo cl none cd_147 0 p ls st H) .eq 40 32 st) ∧
  (∀ ls st H, aGo cl none cd_147 0 32 ls st H = aRLoad (fun st => aGo cl none cd_147 0 33 ls st H) ls 0 st) ∧
  (∀ ls st H, aGo cl none cd_147 0 33 ls st H = aGo cl none cd_147 0 34 ls (.int 0 :: st) H) ∧
  (∀ ls st H, aGo cl none cd_147 0 34 ls st H = aCallV (fun st H => aGo cl none cd_147 0 37 ls st H) cl 146 1 8 H st) ∧
  (∀ ls st H, aGo cl none cd_147 0 37 ls st H = aGo cl none cd_147 0 51 ls st H) ∧
  (∀ ls st H, aGo cl none cd_147 0 40 ls st H = aGo cl none cd_147 0 42 ls (.int 20 :: st) H) ∧
  (∀ ls st H, aGo cl none cd_147 0 42 ls st H = aGo cl none cd_147 0 44 ls (.int 10 :: st) H) ∧
  (∀ ls st H, aGo cl none cd_147 0 44 ls st H = aILoad (fun st => aGo cl none cd_147 0 45 ls st H) ls 2 st) ∧
  (∀ ls st H, aGo cl none cd_147 0 45 ls st H = aBin (fun st => aGo cl none cd_147 0 46 ls st H) (fun x y => x * y) st) ∧
  (∀ ls st H, aGo cl none cd_147 0 46 ls st H = aBin (fun st => aGo cl none cd_147 0 47 ls st H) (fun x y => x + y) st) ∧
  (∀ ls st H, aGo cl none cd_147 0 47 ls st H = aGo cl none cd_147 0 48 ls (.int 3 :: st) H) ∧
  (∀ ls st H, aGo cl none cd_147 0 48 ls st H = aILoad (fun st => aGo cl none cd_147 0 49 ls st H) ls 3 st) ∧
  (∀ ls st H, aGo cl none cd_147 0 49 ls st H = aBin (fun st => aGo cl none cd_147 0 50 ls st H) (fun x y => x * y) st) ∧
  (∀ ls st H, aGo cl none cd_147 0 50 ls st H = aBin (fun st => aGo cl none cd_147 0 51 ls st H) (fun x y => x - y) st) ∧
  (∀ ls st H, aGo cl none cd_147 0 51 ls st H = aGo cl none cd_147 0 52 ls (.int 0 :: st) H) ∧
  (∀ ls st H, aGo cl none cd_147 0 52 ls st H = aGo cl none cd_147 0 54 ls (.int 99 :: st) H) ∧
  (∀ ls st H, aGo cl none cd_147 0 54 ls st H = aCallI (fun st H => aGo cl none cd_147 0 57 ls st H) cl 118 3 H st) ∧
  (∀ ls st H, aGo cl none cd_147 0 57 ls st H = aIret 0 st H) :=
  ⟨fun _ _ _ => (aGo_s rfl).trans rfl, fun _ _ _ => (aGo_s rfl).trans rfl, fun _ _ _ => (aGo_s rfl).trans rfl, fun _ _ _ => (aGo_s rfl).trans rfl, fun _ _ _ => (aGo_s rfl).trans rfl, fun _ _ _ => (aGo_s rfl).trans rfl, fun _ _ _ => (aGo_s rfl).trans rfl, fun _ _ _ => (aGo_s rfl).trans rfl, fun _ _ _ => (aGo_s rfl).trans rfl, fun _ _ _ => (aGo_s rfl).trans rfl, fun _ _ _ => (aGo_s rfl).trans rfl, fun _ _ _ => (aGo_s rfl).trans rfl, fun _ _ _ => (aGo_s rfl).trans rfl, fun _ _ _ => (aGo_s rfl).trans rfl, fun _ _ _ => (aGo_s rfl).trans rfl, fun _ _ _ => (aGo_s rfl).trans rfl, fun _ _ _ => (aGo_s rfl).trans rfl, fun _ _ _ => (aGo_s rfl).trans rfl, fun _ _ _ => (aGo_s rfl).trans rfl, fun _ _ _ => (aGo_s rfl).trans rfl, fun _ _ _ => (aGo_s rfl).trans rfl, fun _ _ _ => (aGo_s rfl).trans rfl, fun _ _ _ => (aGo_s rfl).trans rfl, fun _ _ _ => (aGo_s rfl).trans rfl, fun _ _ _ => (aGo_s rfl).trans rfl, fun _ _ _ => (aGo_s rfl).trans rfl, fun _ _ _ => (aGo_s rfl).trans rfl, fun _ _ _ => (aGo_s rfl).trans rfl, fun _ _ _ => (aGo_s rfl).trans rfl, fun _ _ _ => (aGo_s rfl).trans rfl, fun _ _ _ => (aGo_s rfl).trans rfl, fun _ _ _ => (aGo_s rfl).trans rfl, fun _ _ _ => (aGo_s rfl).trans rfl, fun _ _ _ => (aGo_s rfl).trans rfl, fun _ _ _ => (aGo_s rfl).trans rfl, fun _ _ _ => (aGo_s rfl).trans rfl⟩
theorem e_147 {d : Nat} {x0 : Nat} {x1 : Int32} {x2 : Int32} {x3 : Int32} {H : aH} : aCall aMt (d + 1) 147 [.ref x0, .int x1, .int x2, .int x3] H = aGo (aCall aMt d) none cd_147 0 0 [some (.ref x0), some (.int x1), some (.int x2), some (.int x3)] [] H := (c_0 rfl ⟨rfl, Nat.le_of_ble_eq_true rfl, Nat.le_of_ble_eq_true rfl⟩).trans rfl
theorem s_148 {cl : Nat → List Value → aH → aRs} : (∀ ls st H, aGo cl none cd_148 0 0 ls st H = aRLoad (fun st => aGo cl none cd_148 0 1 ls st H) ls 0 st) ∧
  (∀ ls st H, aGo cl none cd_148 0 1 ls st H = aGet (fun st => aGo cl none cd_148 0 4 ls st H) 8 10 H st) ∧
  (∀ ls st H, aGo cl none cd_148 0 4 ls st H = aGo cl none cd_148 0 6 ls (.int 108 :: st) H) ∧
  (∀ ls st H, aGo cl none cd_148 0 6 ls st H = aILoad (fun st => aGo cl none cd_148 0 7 ls st H) ls 1 st) ∧
  (∀ ls st H, aGo cl none cd_148 0 7 ls st H = aIast (fun st H => aGo cl none cd_148 0 8 ls st H) H st) ∧
  (∀ ls st H, aGo cl none cd_148 0 8 ls st H = aRLoad (fun st => aGo cl none cd_148 0 9 ls st H) ls 0 st) ∧
  (∀ ls st H, aGo cl none cd_148 0 9 ls st H = aGet (fun st => aGo cl none cd_148 0 12 ls st H) 8 10 H st) ∧
  (∀ ls st H, aGo cl none cd_148 0 12 ls st H = aGo cl none cd_148 0 14 ls (.int 115 :: st) H) ∧
  (∀ ls st H, aGo cl none cd_148 0 14 ls st H = aILoad (fun st => aGo cl none cd_148 0 15 ls st H) ls 2 st) ∧
  (∀ ls st H, aGo cl none cd_148 0 15 ls st H = aIast (fun st H => aGo cl none cd_148 0 16 ls st H) H st) ∧
  (∀ ls st H, aGo cl none cd_148 0 16 ls st H = aRLoad (fun st => aGo cl none cd_148 0 17 ls st H) ls 0 st) ∧
  (∀ ls st H, aGo cl none cd_148 0 17 ls st H = aGet (fun st => aGo cl none cd_148 0 20 ls st H) 8 10 H st) ∧
  (∀ ls st H, aGo cl none cd_148 0 20 ls st H = aGo cl none cd_148 0 22 ls (.int 111 :: st) H) ∧
  (∀ ls st H, aGo cl none cd_148 0 22 ls st H = aILoad (fun st => aGo cl none cd_148 0 23 ls st H) ls 3 st) ∧
  (∀ ls st H, aGo cl none cd_148 0 23 ls st H = aIast (fun st H => aGo cl none cd_148 0 24 ls st H) H st) ∧
  (∀ ls st H, aGo cl none cd_148 0 24 ls st H = aRLoad (fun st => aGo cl none cd_148 0 25 ls st H) ls 0 st) ∧
  (∀ ls st H, aGo cl none cd_148 0 25 ls st H = aGo cl none cd_148 0 26 ls (.int 1 :: st) H) ∧
  (∀ ls st H, aGo cl none cd_148 0 26 ls st H = aCallV (fun st H => aGo cl none cd_148 0 29 ls st H) cl 142 1 8 H st) ∧
  (∀ ls st H, aGo cl none cd_148 0 29 ls st H = aIf (fun p st => aGo cl none cd_148 0 p ls st H) .eq 40 32 st) ∧
  (∀ ls st H, aGo cl none cd_148 0 32 ls st H = aRLoad (fun st => aGo cl none cd_148 0 33 ls st H) ls 0 st) ∧
  (∀ ls st H, aGo cl none cd_148 0 33 ls st H = aGo cl none cd_148 0 34 ls (.int 1 :: st) H) ∧
  (∀ ls st H, aGo cl none cd_148 0 34 ls st H = aCallV (fun st H => aGo cl none cd_148 0 37 ls st H) cl 146 1 8 H st) ∧
  (∀ ls st H, aGo cl none cd_148 0 37 ls st H = aGo cl none cd_148 0 49 ls st H) ∧
  (∀ ls st H, aGo cl none cd_148 0 40 ls st H = aGo cl none cd_148 0 42 ls (.int 10 :: st) H) ∧
  (∀ ls st H, aGo cl none cd_148 0 42 ls st H = aILoad (fun st => aGo cl none cd_148 0 43 ls st H) ls 1 st) ∧
  (∀ ls st H, aGo cl none cd_148 0 43 ls st H = aBin (fun st => aGo cl none cd_148 0 44 ls st H) (fun x y => x * y) st) ∧
  (∀ ls st H, aGo cl none cd_148 0 44 ls st H = aGo cl none cd_148 0 46 ls (.int 20 :: st) H) ∧
  (∀ ls st H, aGo cl none cd_148 0 46 ls st H = aILoad (fun st => aGo cl none cd_148 0 47 ls st H) ls 2 st) ∧
  (∀ ls st H, aGo cl none cd_148 0 47 ls st H = aBin (fun st => aGo cl none cd_148 0 48 ls st H) (fun x y => x * y) st) ∧
  (∀ ls st H, aGo cl none cd_148 0 48 ls st H = aBin (fun st => aGo cl none cd_148 0 49 ls st H) (fun x y => x + y) st) ∧
  (∀ ls st H, aGo cl none cd_148 0 49 ls st H = aGo cl none cd_148 0 50 ls (.int 0 :: st) H) ∧
  (∀ ls st H, aGo cl none cd_148 0 50 ls st H = aGo cl none cd_148 0 52 ls (.int 99 :: st) H) ∧
  (∀ ls st H, aGo cl none cd_148 0 52 ls st H = aCallI (fun st H => aGo cl none cd_148 0 55 ls st H) cl 118 3 H st) ∧
  (∀ ls st H, aGo cl none cd_148 0 55 ls st H = aIret 0 st H) :=
  ⟨fun _ _ _ => (aGo_s rfl).trans rfl, fun _ _ _ => (aGo_s rfl).trans rfl, fun _ _ _ => (aGo_s rfl).trans rfl, fun _ _ _ => (aGo_s rfl).trans rfl, fun _ _ _ => (aGo_s rfl).trans rfl, fun _ _ _ => (aGo_s rfl).trans rfl, fun _ _ _ => (aGo_s rfl).trans rfl, fun _ _ _ => (aGo_s rfl).trans rfl, fun _ _ _ => (aGo_s rfl).trans rfl, fun _ _ _ => (aGo_s rfl).trans rfl, fun _ _ _ => (aGo_s rfl).trans rfl, fun _ _ _ => (aGo_s rfl).trans rfl, fun _ _ _ => (aGo_s rfl).trans rfl, fun _ _ _ => (aGo_s rfl).trans rfl, fun _ _ _ => (aGo_s rfl).trans rfl, fun _ _ _ => (aGo_s rfl).trans rfl, fun _ _ _ => (aGo_s rfl).trans rfl, fun _ _ _ => (aGo_s rfl).trans rfl, fun _ _ _ => (aGo_s rfl).trans rfl, fun _ _ _ => (aGo_s rfl).trans rfl, fun _ _ _ => (aGo_s rfl).trans rfl, fun _ _ _ => (aGo_s rfl).trans rfl, fun _ _ _ => (aGo_s rfl).trans rfl, fun _ _ _ => (aGo_s rfl).trans rfl, fun _ _ _ => (aGo_s rfl).trans rfl, fun _ _ _ => (aGo_s rfl).trans rfl, fun _ _ _ => (aGo_s rfl).trans rfl, fun _ _ _ => (aGo_s rfl).trans rfl, fun _ _ _ => (aGo_s rfl).trans rfl, fun _ _ _ => (aGo_s rfl).trans rfl, fun _ _ _ => (aGo_s rfl).trans rfl, fun _ _ _ => (aGo_s rfl).trans rfl, fun _ _ _ => (aGo_s rfl).trans rfl, fun _ _ _ => (aGo_s rfl).trans rfl⟩
theorem e_148 {d : Nat} {x0 : Nat} {x1 : Int32} {x2 : Int32} {x3 : Int32} {H : aH} : aCall aMt (d + 1) 148 [.ref x0, .int x1, .int x2, .int x3] H = aGo (aCall aMt d) none cd_148 0 0 [some (.ref x0), some (.int x1), some (.int x2), some (.int x3)] [] H := (c_0 rfl ⟨rfl, Nat.le_of_ble_eq_true rfl, Nat.le_of_ble_eq_true rfl⟩).trans rfl
theorem s_149 {cl : Nat → List Value → aH → aRs} : (∀ ls st H, aGo cl none cd_149 0 0 ls st H = aRLoad (fun st => aGo cl none cd_149 0 1 ls st H) ls 0 st) ∧
  (∀ ls st H, aGo cl none cd_149 0 1 ls st H = aRLoad (fun st => aGo cl none cd_149 0 2 ls st H) ls 0 st) ∧
  (∀ ls st H, aGo cl none cd_149 0 2 ls st H = aILoad (fun st => aGo cl none cd_149 0 3 ls st H) ls 1 st) ∧
  (∀ ls st H, aGo cl none cd_149 0 3 ls st H = aGo cl none cd_149 0 4 ls (.int 1 :: st) H) ∧
  (∀ ls st H, aGo cl none cd_149 0 4 ls st H = aCallV (fun st H => aGo cl none cd_149 0 7 ls st H) cl 126 2 8 H st) ∧
  (∀ ls st H, aGo cl none cd_149 0 7 ls st H = aRLoad (fun st => aGo cl none cd_149 0 8 ls st H) ls 0 st) ∧
  (∀ ls st H, aGo cl none cd_149 0 8 ls st H = aILoad (fun st => aGo cl none cd_149 0 9 ls st H) ls 1 st) ∧
  (∀ ls st H, aGo cl none cd_149 0 9 ls st H = aGo cl none cd_149 0 10 ls (.int 2 :: st) H) ∧
  (∀ ls st H, aGo cl none cd_149 0 10 ls st H = aCallV (fun st H => aGo cl none cd_149 0 13 ls st H) cl 126 2 8 H st) ∧
  (∀ ls st H, aGo cl none cd_149 0 13 ls st H = aRLoad (fun st => aGo cl none cd_149 0 14 ls st H) ls 0 st) ∧
  (∀ ls st H, aGo cl none cd_149 0 14 ls st H = aILoad (fun st => aGo cl none cd_149 0 15 ls st H) ls 1 st) ∧
  (∀ ls st H, aGo cl none cd_149 0 15 ls st H = aGo cl none cd_149 0 16 ls (.int 3 :: st) H) ∧
  (∀ ls st H, aGo cl none cd_149 0 16 ls st H = aCallV (fun st H => aGo cl none cd_149 0 19 ls st H) cl 126 2 8 H st) ∧
  (∀ ls st H, aGo cl none cd_149 0 19 ls st H = aCallV (fun st H => aGo cl none cd_149 0 22 ls st H) cl 147 3 8 H st) ∧
  (∀ ls st H, aGo cl none cd_149 0 22 ls st H = aIret 0 st H) :=
  ⟨fun _ _ _ => (aGo_s rfl).trans rfl, fun _ _ _ => (aGo_s rfl).trans rfl, fun _ _ _ => (aGo_s rfl).trans rfl, fun _ _ _ => (aGo_s rfl).trans rfl, fun _ _ _ => (aGo_s rfl).trans rfl, fun _ _ _ => (aGo_s rfl).trans rfl, fun _ _ _ => (aGo_s rfl).trans rfl, fun _ _ _ => (aGo_s rfl).trans rfl, fun _ _ _ => (aGo_s rfl).trans rfl, fun _ _ _ => (aGo_s rfl).trans rfl, fun _ _ _ => (aGo_s rfl).trans rfl, fun _ _ _ => (aGo_s rfl).trans rfl, fun _ _ _ => (aGo_s rfl).trans rfl, fun _ _ _ => (aGo_s rfl).trans rfl, fun _ _ _ => (aGo_s rfl).trans rfl⟩
theorem e_149 {d : Nat} {x0 : Nat} {x1 : Int32} {H : aH} : aCall aMt (d + 1) 149 [.ref x0, .int x1] H = aGo (aCall aMt d) none cd_149 0 0 [some (.ref x0), some (.int x1)] [] H := (c_0 rfl ⟨rfl, Nat.le_of_ble_eq_true rfl, Nat.le_of_ble_eq_true rfl⟩).trans rfl
theorem s_150 {cl : Nat → List Value → aH → aRs} : (∀ ls st H, aGo cl none cd_150 0 0 ls st H = aRLoad (fun st => aGo cl none cd_150 0 1 ls st H) ls 0 st) ∧
  (∀ ls st H, aGo cl none cd_150 0 1 ls st H = aRLoad (fun st => aGo cl none cd_150 0 2 ls st H) ls 0 st) ∧
  (∀ ls st H, aGo cl none cd_150 0 2 ls st H = aILoad (fun st => aGo cl none cd_150 0 3 ls st H) ls 1 st) ∧
  (∀ ls st H, aGo cl none cd_150 0 3 ls st H = aGo cl none cd_150 0 4 ls (.int 1 :: st) H) ∧
  (∀ ls st H, aGo cl none cd_150 0 4 ls st H = aCallV (fun st H => aGo cl none cd_150 0 7 ls st H) cl 126 2 8 H st) ∧
  (∀ ls st H, aGo cl none cd_150 0 7 ls st H = aILoad (fun st => aGo cl none cd_150 0 8 ls st H) ls 2 st) ∧
  (∀ ls st H, aGo cl none cd_150 0 8 ls st H = aRLoad (fun st => aGo cl none cd_150 0 9 ls st H) ls 0 st) ∧
  (∀ ls st H, aGo cl none cd_150 0 9 ls st H = aILoad (fun st => aGo cl none cd_150 0 10 ls st H) ls 1 st) ∧
  (∀ ls st H, aGo cl none cd_150 0 10 ls st H = aGo cl none cd_150 0 11 ls (.int 2 :: st) H) ∧
  (∀ ls st H, aGo cl none cd_150 0 11 ls st H = aCallV (fun st H => aGo cl none cd_150 0 14 ls st H) cl 126 2 8 H st) ∧
  (∀ ls st H, aGo cl none cd_150 0 14 ls st H = aCallV (fun st H => aGo cl none cd_150 0 17 ls st H) cl 148 3 8 H st) ∧
  (∀ ls st H, aGo cl none cd_150 0 17 ls st H = aIret 0 st H) :=
  ⟨fun _ _ _ => (aGo_s rfl).trans rfl, fun _ _ _ => (aGo_s rfl).trans rfl, fun _ _ _ => (aGo_s rfl).trans rfl, fun _ _ _ => (aGo_s rfl).trans rfl, fun _ _ _ => (aGo_s rfl).trans rfl, fun _ _ _ => (aGo_s rfl).trans rfl, fun _ _ _ => (aGo_s rfl).trans rfl, fun _ _ _ => (aGo_s rfl).trans rfl, fun _ _ _ => (aGo_s rfl).trans rfl, fun _ _ _ => (aGo_s rfl).trans rfl, fun _ _ _ => (aGo_s rfl).trans rfl, fun _ _ _ => (aGo_s rfl).trans rfl⟩
theorem e_150 {d : Nat} {x0 : Nat} {x1 : Int32} {x2 : Int32} {H : aH} : aCall aMt (d + 1) 150 [.ref x0, .int x1, .int x2] H = aGo (aCall aMt d) none cd_150 0 0 [some (.ref x0), some (.int x1), some (.int x2)] [] H := (c_0 rfl ⟨rfl, Nat.le_of_ble_eq_true rfl, Nat.le_of_ble_eq_true rfl⟩).trans rfl
theorem s_151 {cl : Nat → List Value → aH → aRs} : (∀ ls st H, aGo cl none cd_151 0 0 ls st H = aILoad (fun st => aGo cl none cd_151 0 1 ls st H) ls 2 st) ∧
  (∀ ls st H, aGo cl none cd_151 0 1 ls st H = aIf (fun p st => aGo cl none cd_151 0 p ls st H) .eq 16 4 st) ∧
  (∀ ls st H, aGo cl none cd_151 0 4 ls st H = aGo cl none cd_151 0 6 ls (.int 50 :: st) H) ∧
  (∀ ls st H, aGo cl none cd_151 0 6 ls st H = aRLoad (fun st => aGo cl none cd_151 0 7 ls st H) ls 0 st) ∧
  (∀ ls st H, aGo cl none cd_151 0 7 ls st H = aILoad (fun st => aGo cl none cd_151 0 8 ls st H) ls 1 st) ∧
  (∀ ls st H, aGo cl none cd_151 0 8 ls st H = aGo cl none cd_151 0 9 ls (.int 2 :: st) H) ∧
  (∀ ls st H, aGo cl none cd_151 0 9 ls st H = aCallV (fun st H => aGo cl none cd_151 0 12 ls st H) cl 124 2 8 H st) ∧
  (∀ ls st H, aGo cl none cd_151 0 12 ls st H = aBin (fun st => aGo cl none cd_151 0 13 ls st H) (fun x y => x + y) st) ∧
  (∀ ls st H, aGo cl none cd_151 0 13 ls st H = aGo cl none cd_151 0 17 ls st H) ∧
  (∀ ls st H, aGo cl none cd_151 0 16 ls st H = aGo cl none cd_151 0 17 ls (.int 0 :: st) H) ∧
  (∀ ls st H, aGo cl none cd_151 0 17 ls st H = aIret 0 st H) :=
  ⟨fun _ _ _ => (aGo_s rfl).trans rfl, fun _ _ _ => (aGo_s rfl).trans rfl, fun _ _ _ => (aGo_s rfl).trans rfl, fun _ _ _ => (aGo_s rfl).trans rfl, fun _ _ _ => (aGo_s rfl).trans rfl, fun _ _ _ => (aGo_s rfl).trans rfl, fun _ _ _ => (aGo_s rfl).trans rfl, fun _ _ _ => (aGo_s rfl).trans rfl, fun _ _ _ => (aGo_s rfl).trans rfl, fun _ _ _ => (aGo_s rfl).trans rfl, fun _ _ _ => (aGo_s rfl).trans rfl⟩
theorem e_151 {d : Nat} {x0 : Nat} {x1 : Int32} {x2 : Int32} {H : aH} : aCall aMt (d + 1) 151 [.ref x0, .int x1, .int x2] H = aGo (aCall aMt d) none cd_151 0 0 [some (.ref x0), some (.int x1), some (.int x2)] [] H := (c_0 rfl ⟨rfl, Nat.le_of_ble_eq_true rfl, Nat.le_of_ble_eq_true rfl⟩).trans rfl
theorem s_152 {cl : Nat → List Value → aH → aRs} : (∀ ls st H, aGo cl none cd_152 0 0 ls st H = aRLoad (fun st => aGo cl none cd_152 0 1 ls st H) ls 0 st) ∧
  (∀ ls st H, aGo cl none cd_152 0 1 ls st H = aILoad (fun st => aGo cl none cd_152 0 2 ls st H) ls 2 st) ∧
  (∀ ls st H, aGo cl none cd_152 0 2 ls st H = aCallV (fun st H => aGo cl none cd_152 0 5 ls st H) cl 149 1 8 H st) ∧
  (∀ ls st H, aGo cl none cd_152 0 5 ls st H = aRLoad (fun st => aGo cl none cd_152 0 6 ls st H) ls 0 st) ∧
  (∀ ls st H, aGo cl none cd_152 0 6 ls st H = aILoad (fun st => aGo cl none cd_152 0 7 ls st H) ls 1 st) ∧
  (∀ ls st H, aGo cl none cd_152 0 7 ls st H = aGo cl none cd_152 0 8 ls (.int 2 :: st) H) ∧
  (∀ ls st H, aGo cl none cd_152 0 8 ls st H = aCallV (fun st H => aGo cl none cd_152 0 11 ls st H) cl 124 2 8 H st) ∧
  (∀ ls st H, aGo cl none cd_152 0 11 ls st H = aGo cl none cd_152 0 12 ls (.int 2 :: st) H) ∧
  (∀ ls st H, aGo cl none cd_152 0 12 ls st H = aDiv (fun st => aGo cl none cd_152 0 13 ls st H) st) ∧
  (∀ ls st H, aGo cl none cd_152 0 13 ls st H = aBin (fun st => aGo cl none cd_152 0 14 ls st H) (fun x y => x + y) st) ∧
  (∀ ls st H, aGo cl none cd_152 0 14 ls st H = aGo cl none cd_152 0 16 ls (.int 20 :: st) H) ∧
  (∀ ls st H, aGo cl none cd_152 0 16 ls st H = aBin (fun st => aGo cl none cd_152 0 17 ls st H) (fun x y => x - y) st) ∧
  (∀ ls st H, aGo cl none cd_152 0 17 ls st H = aIStore (fun ls st => aGo cl none cd_152 0 19 ls st H) ls 4 st) ∧
  (∀ ls st H, aGo cl none cd_152 0 19 ls st H = aILoad (fun st => aGo cl none cd_152 0 20 ls st H) ls 3 st) ∧
  (∀ ls st H, aGo cl none cd_152 0 20 ls st H = aIf (fun p st => aGo cl none cd_152 0 p ls st H) .eq 32 23 st) ∧
  (∀ ls st H, aGo cl none cd_152 0 23 ls st H = aRLoad (fun st => aGo cl none cd_152 0 24 ls st H) ls 0 st) ∧
  (∀ ls st H, aGo cl none cd_152 0 24 ls st H = aILoad (fun st => aGo cl none cd_152 0 25 ls st H) ls 1 st) ∧
  (∀ ls st H, aGo cl none cd_152 0 25 ls st H = aGo cl none cd_152 0 26 ls (.int 1 :: st) H) ∧
  (∀ ls st H, aGo cl none cd_152 0 26 ls st H = aCallV (fun st H => aGo cl none cd_152 0 29 ls st H) cl 151 2 8 H st) ∧
  (∀ ls st H, aGo cl none cd_152 0 29 ls st H = aGo cl none cd_152 0 43 ls st H) ∧
  (∀ ls st H, aGo cl none cd_152 0 32 ls st H = aILoad (fun st => aGo cl none cd_152 0 34 ls st H) ls 4 st) ∧
  (∀ ls st H, aGo cl none cd_152 0 34 ls st H = aIf (fun p st => aGo cl none cd_152 0 p ls st H) .ge 41 37 st) ∧
  (∀ ls st H, aGo cl none cd_152 0 37 ls st H = aGo cl none cd_152 0 38 ls (.int 0 :: st) H) ∧
  (∀ ls st H, aGo cl none cd_152 0 38 ls st H = aGo cl none cd_152 0 43 ls st H) ∧
  (∀ ls st H, aGo cl none cd_152 0 41 ls st H = aILoad (fun st => aGo cl none cd_152 0 43 ls st H) ls 4 st) ∧
  (∀ ls st H, aGo cl none cd_152 0 43 ls st H = aIret 0 st H) :=
  ⟨fun _ _ _ => (aGo_s rfl).trans rfl, fun _ _ _ => (aGo_s rfl).trans rfl, fun _ _ _ => (aGo_s rfl).trans rfl, fun _ _ _ => (aGo_s rfl).trans rfl, fun _ _ _ => (aGo_s rfl).trans rfl, fun _ _ _ => (aGo_s rfl).trans rfl, fun _ _ _ => (aGo_s rfl).trans rfl, fun _ _ _ => (aGo_s rfl).trans rfl, fun _ _ _ => (aGo_s rfl).trans rfl, fun _ _ _ => (aGo_s rfl).trans rfl, fun _ _ _ => (aGo_s rfl).trans rfl, fun _ _ _ => (aGo_s rfl).trans rfl, fun _ _ _ => (aGo_s rfl).trans rfl, fun _ _ _ => (aGo_s rfl).trans rfl, fun _ _ _ => (aGo_s rfl).trans rfl, fun _ _ _ => (aGo_s rfl).trans rfl, fun _ _ _ => (aGo_s rfl).trans rfl, fun _ _ _ => (aGo_s rfl).trans rfl, fun _ _ _ => (aGo_s rfl).trans rfl, fun _ _ _ => (aGo_s rfl).trans rfl, fun _ _ _ => (aGo_s rfl).trans rfl, fun _ _ _ => (aGo_s rfl).trans rfl, fun _ _ _ => (aGo_s rfl).trans rfl, fun _ _ _ => (aGo_s rfl).trans rfl, fun _ _ _ => (aGo_s rfl).trans rfl, fun _ _ _ => (aGo_s rfl).trans rfl⟩
theorem e_152 {d : Nat} {x0 : Nat} {x1 : Int32} {x2 : Int32} {x3 : Int32} {H : aH} : aCall aMt (d + 1) 152 [.ref x0, .int x1, .int x2, .int x3] H = aGo (aCall aMt d) none cd_152 0 0 [some (.ref x0), some (.int x1), some (.int x2), some (.int x3), none] [] H := (c_0 rfl ⟨rfl, Nat.le_of_ble_eq_true rfl, Nat.le_of_ble_eq_true rfl⟩).trans rfl
theorem s_153 {cl : Nat → List Value → aH → aRs} : (∀ ls st H, aGo cl none cd_153 0 0 ls st H = aILoad (fun st => aGo cl none cd_153 0 1 ls st H) ls 3 st) ∧
  (∀ ls st H, aGo cl none cd_153 0 1 ls st H = aIf (fun p st => aGo cl none cd_153 0 p ls st H) .ne 13 4 st) ∧
  (∀ ls st H, aGo cl none cd_153 0 4 ls st H = aRLoad (fun st => aGo cl none cd_153 0 5 ls st H) ls 0 st) ∧
  (∀ ls st H, aGo cl none cd_153 0 5 ls st H = aILoad (fun st => aGo cl none cd_153 0 6 ls st H) ls 1 st) ∧
  (∀ ls st H, aGo cl none cd_153 0 6 ls st H = aGo cl none cd_153 0 7 ls (.int 3 :: st) H) ∧
  (∀ ls st H, aGo cl none cd_153 0 7 ls st H = aCallV (fun st H => aGo cl none cd_153 0 10 ls st H) cl 124 2 8 H st) ∧
  (∀ ls st H, aGo cl none cd_153 0 10 ls st H = aIf (fun p st => aGo cl none cd_153 0 p ls st H) .ne 17 13 st) ∧
  (∀ ls st H, aGo cl none cd_153 0 13 ls st H = aGo cl none cd_153 0 14 ls (.int 1 :: st) H) ∧
  (∀ ls st H, aGo cl none cd_153 0 14 ls st H = aGo cl none cd_153 0 18 ls st H) ∧
  (∀ ls st H, aGo cl none cd_153 0 17 ls st H = aGo cl none cd_153 0 18 ls (.int 0 :: st) H) ∧
  (∀ ls st H, aGo cl none cd_153 0 18 ls st H = aIStore (fun ls st => aGo cl none cd_153 0 20 ls st H) ls 4 st) ∧
  (∀ ls st H, aGo cl none cd_153 0 20 ls st H = aILoad (fun st => aGo cl none cd_153 0 22 ls st H) ls 4 st) ∧
  (∀ ls st H, aGo cl none cd_153 0 22 ls st H = aIf (fun p st => aGo cl none cd_153 0 p ls st H) .eq 34 25 st) ∧
  (∀ ls st H, aGo cl none cd_153 0 25 ls st H = aRLoad (fun st => aGo cl none cd_153 0 26 ls st H) ls 0 st) ∧
  (∀ ls st H, aGo cl none cd_153 0 26 ls st H = aILoad (fun st => aGo cl none cd_153 0 27 ls st H) ls 1 st) ∧
  (∀ ls st H, aGo cl none cd_153 0 27 ls st H = aILoad (fun st => aGo cl none cd_153 0 28 ls st H) ls 3 st) ∧
  (∀ ls st H, aGo cl none cd_153 0 28 ls st H = aCallV (fun st H => aGo cl none cd_153 0 31 ls st H) cl 151 2 8 H st) ∧
  (∀ ls st H, aGo cl none cd_153 0 31 ls st H = aGo cl none cd_153 0 51 ls st H) ∧
  (∀ ls st H, aGo cl none cd_153 0 34 ls st H = aGo cl none cd_153 0 36 ls (.int 15 :: st) H) ∧
  (∀ ls st H, aGo cl none cd_153 0 36 ls st H = aRLoad (fun st => aGo cl none cd_153 0 37 ls st H) ls 0 st) ∧
  (∀ ls st H, aGo cl none cd_153 0 37 ls st H = aILoad (fun st => aGo cl none cd_153 0 38 ls st H) ls 1 st) ∧
  (∀ ls st H, aGo cl none cd_153 0 38 ls st H = aGo cl none cd_153 0 39 ls (.int 3 :: st) H) ∧
  (∀ ls st H, aGo cl none cd_153 0 39 ls st H = aCallV (fun st H => aGo cl none cd_153 0 42 ls st H) cl 124 2 8 H st) ∧
  (∀ ls st H, aGo cl none cd_153 0 42 ls st H = aBin (fun st => aGo cl none cd_153 0 43 ls st H) (fun x y => x * y) st) ∧
  (∀ ls st H, aGo cl none cd_153 0 43 ls st H = aRLoad (fun st => aGo cl none cd_153 0 44 ls st H) ls 0 st) ∧
  (∀ ls st H, aGo cl none cd_153 0 44 ls st H = aILoad (fun st => aGo cl none cd_153 0 45 ls st H) ls 2 st) ∧
  (∀ ls st H, aGo cl none cd_153 0 45 ls st H = aCallV (fun st H => aGo cl none cd_153 0 48 ls st H) cl 149 1 8 H st) ∧
  (∀ ls st H, aGo cl none cd_153 0 48 ls st H = aGo cl none cd_153 0 49 ls (.int 2 :: st) H) ∧
  (∀ ls st H, aGo cl none cd_153 0 49 ls st H = aDiv (fun st => aGo cl none cd_153 0 50 ls st H) st) ∧
  (∀ ls st H, aGo cl none cd_153 0 50 ls st H = aBin (fun st => aGo cl none cd_153 0 51 ls st H) (fun x y => x + y) st) ∧
  (∀ ls st H, aGo cl none cd_153 0 51 ls st H = aIret 0 st H) :=
  ⟨fun _ _ _ => (aGo_s rfl).trans rfl, fun _ _ _ => (aGo_s rfl).trans rfl, fun _ _ _ => (aGo_s rfl).trans rfl, fun _ _ _ => (aGo_s rfl).trans rfl, fun _ _ _ => (aGo_s rfl).trans rfl, fun _ _ _ => (aGo_s rfl).trans rfl, fun _ _ _ => (aGo_s rfl).trans rfl, fun _ _ _ => (aGo_s rfl).trans rfl, fun _ _ _ => (aGo_s rfl).trans rfl, fun _ _ _ => (aGo_s rfl).trans rfl, fun _ _ _ => (aGo_s rfl).trans rfl, fun _ _ _ => (aGo_s rfl).trans rfl, fun _ _ _ => (aGo_s rfl).trans rfl, fun _ _ _ => (aGo_s rfl).trans rfl, fun _ _ _ => (aGo_s rfl).trans rfl, fun _ _ _ => (aGo_s rfl).trans rfl, fun _ _ _ => (aGo_s rfl).trans rfl, fun _ _ _ => (aGo_s rfl).trans rfl, fun _ _ _ => (aGo_s rfl).trans rfl, fun _ _ _ => (aGo_s rfl).trans rfl, fun _ _ _ => (aGo_s rfl).trans rfl, fun _ _ _ => (aGo_s rfl).trans rfl, fun _ _ _ => (aGo_s rfl).trans rfl, fun _ _ _ => (aGo_s rfl).trans rfl, fun _ _ _ => (aGo_s rfl).trans rfl, fun _ _ _ => (aGo_s rfl).trans rfl, fun _ _ _ => (aGo_s rfl).trans rfl, fun _ _ _ => (aGo_s rfl).trans rfl, fun _ _ _ => (aGo_s rfl).trans rfl, fun _ _ _ => (aGo_s rfl).trans rfl, fun _ _ _ => (aGo_s rfl).trans rfl⟩
theorem e_153 {d : Nat} {x0 : Nat} {x1 : Int32} {x2 : Int32} {x3 : Int32} {H : aH} : aCall aMt (d + 1) 153 [.ref x0, .int x1, .int x2, .int x3] H = aGo (aCall aMt d) none cd_153 0 0 [some (.ref x0), some (.int x1), some (.int x2), some (.int x3), none] [] H := (c_0 rfl ⟨rfl, Nat.le_of_ble_eq_true rfl, Nat.le_of_ble_eq_true rfl⟩).trans rfl
theorem s_154 {cl : Nat → List Value → aH → aRs} : (∀ ls st H, aGo cl none cd_154 0 0 ls st H = aRLoad (fun st => aGo cl none cd_154 0 1 ls st H) ls 0 st) ∧
  (∀ ls st H, aGo cl none cd_154 0 1 ls st H = aILoad (fun st => aGo cl none cd_154 0 2 ls st H) ls 2 st) ∧
  (∀ ls st H, aGo cl none cd_154 0 2 ls st H = aGo cl none cd_154 0 3 ls (.int 0 :: st) H) ∧
  (∀ ls st H, aGo cl none cd_154 0 3 ls st H = aCallV (fun st H => aGo cl none cd_154 0 6 ls st H) cl 126 2 8 H st) ∧
  (∀ ls st H, aGo cl none cd_154 0 6 ls st H = aILoad (fun st => aGo cl none cd_154 0 7 ls st H) ls 1 st) ∧
  (∀ ls st H, aGo cl none cd_154 0 7 ls st H = aIc (fun p st => aGo cl none cd_154 0 p ls st H) .ne 14 10 st) ∧
  (∀ ls st H, aGo cl none cd_154 0 10 ls st H = aGo cl none cd_154 0 11 ls (.int 1 :: st) H) ∧
  (∀ ls st H, aGo cl none cd_154 0 11 ls st H = aGo cl none cd_154 0 15 ls st H) ∧
  (∀ ls st H, aGo cl none cd_154 0 14 ls st H = aGo cl none cd_154 0 15 ls (.int 0 :: st) H) ∧
  (∀ ls st H, aGo cl none cd_154 0 15 ls st H = aIStore (fun ls st => aGo cl none cd_154 0 16 ls st H) ls 3 st) ∧
  (∀ ls st H, aGo cl none cd_154 0 16 ls st H = aRLoad (fun st => aGo cl none cd_154 0 17 ls st H) ls 0 st) ∧
  (∀ ls st H, aGo cl none cd_154 0 17 ls st H = aILoad (fun st => aGo cl none cd_154 0 18 ls st H) ls 1 st) ∧
  (∀ ls st H, aGo cl none cd_154 0 18 ls st H = aGo cl none cd_154 0 19 ls (.int 0 :: st) H) ∧
  (∀ ls st H, aGo cl none cd_154 0 19 ls st H = aCallV (fun st H => aGo cl none cd_154 0 22 ls st H) cl 124 2 8 H st) ∧
  (∀ ls st H, aGo cl none cd_154 0 22 ls st H = aSwS (fun p st => aGo cl none cd_154 0 p ls st H) [(1, 60), (2, 68), (3, 76), (4, 82), (5, 97), (6, 128)] 150 st) ∧
  (∀ ls st H, aGo cl none cd_154 0 60 ls st H = aRLoad (fun st => aGo cl none cd_154 0 61 ls st H) ls 0 st) ∧
  (∀ ls st H, aGo cl none cd_154 0 61 ls st H = aILoad (fun st => aGo cl none cd_154 0 62 ls st H) ls 1 st) ∧
  (∀ ls st H, aGo cl none cd_154 0 62 ls st H = aILoad (fun st => aGo cl none cd_154 0 63 ls st H) ls 2 st) ∧
  (∀ ls st H, aGo cl none cd_154 0 63 ls st H = aILoad (fun st => aGo cl none cd_154 0 64 ls st H) ls 3 st) ∧
  (∀ ls st H, aGo cl none cd_154 0 64 ls st H = aCallV (fun st H => aGo cl none cd_154 0 67 ls st H) cl 152 3 8 H st) ∧
  (∀ ls st H, aGo cl none cd_154 0 67 ls st H = aIret 0 st H) ∧
  (∀ ls st H, aGo cl none cd_154 0 68 ls st H = aRLoad (fun st => aGo cl none cd_154 0 69 ls st H) ls 0 st) ∧
  (∀ ls st H, aGo cl none cd_154 0 69 ls st H = aILoad (fun st => aGo cl none cd_154 0 70 ls st H) ls 1 st) ∧
  (∀ ls st H, aGo cl none cd_154 0 70 ls st H = aILoad (fun st => aGo cl none cd_154 0 71 ls st H) ls 2 st) ∧
  (∀ ls st H, aGo cl none cd_154 0 71 ls st H = aILoad (fun st => aGo cl none cd_154 0 72 ls st H) ls 3 st) ∧
  (∀ ls st H, aGo cl none cd_154 0 72 ls st H = aCallV (fun st H => aGo cl none cd_154 0 75 ls st H) cl 153 3 8 H st) ∧
  (∀ ls st H, aGo cl none cd_154 0 75 ls st H = aIret 0 st H) ∧
  (∀ ls st H, aGo cl none cd_154 0 76 ls st H = aRLoad (fun st => aGo cl none cd_154 0 77 ls st H) ls 0 st) ∧
  (∀ ls st H, aGo cl none cd_154 0 77 ls st H = aILoad (fun st => aGo cl none cd_154 0 78 ls st H) ls 2 st) ∧
  (∀ ls st H, aGo cl none cd_154 0 78 ls st H = aCallV (fun st H => aGo cl none cd_154 0 81 ls st H) cl 149 1 8 H st) ∧
  (∀ ls st H, aGo cl none cd_154 0 81 ls st H = aIret 0 st H) ∧
  (∀ ls st H, aGo cl none cd_154 0 82 ls st H = aRLoad (fun st => aGo cl none cd_154 0 83 ls st H) ls 0 st) ∧
  (∀ ls st H, aGo cl none cd_154 0 83 ls st H = aILoad (fun st => aGo cl none cd_154 0 84 ls st H) ls 1 st) ∧
  (∀ ls st H, aGo cl none cd_154 0 84 ls st H = aILoad (fun st => aGo cl none cd_154 0 85 ls st H) ls 2 st) ∧
  (∀ ls st H, aGo cl none cd_154 0 85 ls st H = aILoad (fun st => aGo cl none cd_154 0 86 ls st H) ls 3 st) ∧
  (∀ ls st H, aGo cl none cd_154 0 86 ls st H = aCallV (fun st H => aGo cl none cd_154 0 89 ls st H) cl 152 3 8 H st) ∧
  (∀ ls st H, aGo cl none cd_154 0 89 ls st H = aRLoad (fun st => aGo cl none cd_154 0 90 ls st H) ls 0 st) ∧
  (∀ ls st H, aGo cl none cd_154 0 90 ls st H = aILoad (fun st => aGo cl none cd_154 0 91 ls st H) ls 1 st) ∧
  (∀ ls st H, aGo cl none cd_154 0 91 ls st H = aGo cl none cd_154 0 92 ls (.int 1 :: st) H) ∧
  (∀ ls st H, aGo cl none cd_154 0 92 ls st H = aCallV (fun st H => aGo cl none cd_154 0 95 ls st H) cl 124 2 8 H st) ∧
  (∀ ls st H, aGo cl none cd_154 0 95 ls st H = aBin (fun st => aGo cl none cd_154 0 96 ls st H) (fun x y => x + y) st) ∧
  (∀ ls st H, aGo cl none cd_154 0 96 ls st H = aIret 0 st H) ∧
  (∀ ls st H, aGo cl none cd_154 0 97 ls st H = aILoad (fun st => aGo cl none cd_154 0 98 ls st H) ls 3 st) ∧
  (∀ ls st H, aGo cl none cd_154 0 98 ls st H = aIf (fun p st => aGo cl none cd_154 0 p ls st H) .ne 116 101 st) ∧
  (∀ ls st H, aGo cl none cd_154 0 101 ls st H = aRLoad (fun st => aGo cl none cd_154 0 102 ls st H) ls 0 st) ∧
  (∀ ls st H, aGo cl none cd_154 0 102 ls st H = aILoad (fun st => aGo cl none cd_154 0 103 ls st H) ls 2 st) ∧
  (∀ ls st H, aGo cl none cd_154 0 103 ls st H = aGo cl none cd_154 0 104 ls (.int 0 :: st) H) ∧
  (∀ ls st H, aGo cl none cd_154 0 104 ls st H = aCallV (fun st H => aGo cl none cd_154 0 107 ls st H) cl 126 2 8 H st) ∧
  (∀ ls st H, aGo cl none cd_154 0 107 ls st H = aRLoad (fun st => aGo cl none cd_154 0 108 ls st H) ls 0 st) ∧
  (∀ ls st H, aGo cl none cd_154 0 108 ls st H = aILoad (fun st => aGo cl none cd_154 0 109 ls st H) ls 1 st) ∧
  (∀ ls st H, aGo cl none cd_154 0 109 ls st H = aGo cl none cd_154 0 110 ls (.int 4 :: st) H) ∧
  (∀ ls st H, aGo cl none cd_154 0 110 ls st H = aCallV (fun st H => aGo cl none cd_154 0 113 ls st H) cl 124 2 8 H st) ∧
  (∀ ls st H, aGo cl none cd_154 0 113 ls st H = aIc (fun p st => aGo cl none cd_154 0 p ls st H) .ne 126 116 st) ∧
  (∀ ls st H, aGo cl none cd_154 0 116 ls st H = aRLoad (fun st => aGo cl none cd_154 0 117 ls st H) ls 0 st) ∧
  (∀ ls st H, aGo cl none cd_154 0 117 ls st H = aILoad (fun st => aGo cl none cd_154 0 118 ls st H) ls 1 st) ∧
  (∀ ls st H, aGo cl none cd_154 0 118 ls st H = aILoad (fun st => aGo cl none cd_154 0 119 ls st H) ls 2 st) ∧
  (∀ ls st H, aGo cl none cd_154 0 119 ls st H = aILoad (fun st => aGo cl none cd_154 0 120 ls st H) ls 3 st) ∧
  (∀ ls st H, aGo cl none cd_154 0 120 ls st H = aCallV (fun st H => aGo cl none cd_154 0 123 ls st H) cl 153 3 8 H st) ∧
  (∀ ls st H, aGo cl none cd_154 0 123 ls st H = aGo cl none cd_154 0 127 ls st H) ∧
  (∀ ls st H, aGo cl none cd_154 0 126 ls st H = aGo cl none cd_154 0 127 ls (.int 0 :: st) H) ∧
  (∀ ls st H, aGo cl none cd_154 0 127 ls st H = aIret 0 st H) ∧
  (∀ ls st H, aGo cl none cd_154 0 128 ls st H = aRLoad (fun st => aGo cl none cd_154 0 129 ls st H) ls 0 st) ∧
  (∀ ls st H, aGo cl none cd_154 0 129 ls st H = aILoad (fun st => aGo cl none cd_154 0 130 ls st H) ls 2 st) ∧
  (∀ ls st H, aGo cl none cd_154 0 130 ls st H = aGo cl none cd_154 0 131 ls (.int 3 :: st) H) ∧
  (∀ ls st H, aGo cl none cd_154 0 131 ls st H = aCallV (fun st H => aGo cl none cd_154 0 134 ls st H) cl 126 2 8 H st) ∧
  (∀ ls st H, aGo cl none cd_154 0 134 ls st H = aRLoad (fun st => aGo cl none cd_154 0 135 ls st H) ls 0 st) ∧
  (∀ ls st H, aGo cl none cd_154 0 135 ls st H = aILoad (fun st => aGo cl none cd_154 0 136 ls st H) ls 1 st) ∧
  (∀ ls st H, aGo cl none cd_154 0 136 ls st H = aGo cl none cd_154 0 137 ls (.int 1 :: st) H) ∧
  (∀ ls st H, aGo cl none cd_154 0 137 ls st H = aCallV (fun st H => aGo cl none cd_154 0 140 ls st H) cl 124 2 8 H st) ∧
  (∀ ls st H, aGo cl none cd_154 0 140 ls st H = aIc (fun p st => aGo cl none cd_154 0 p ls st H) .lt 148 143 st) ∧
  (∀ ls st H, aGo cl none cd_154 0 143 ls st H = aGo cl none cd_154 0 145 ls (.int 30 :: st) H) ∧
  (∀ ls st H, aGo cl none cd_154 0 145 ls st H = aGo cl none cd_154 0 149 ls st H) ∧
  (∀ ls st H, aGo cl none cd_154 0 148 ls st H = aGo cl none cd_154 0 149 ls (.int 0 :: st) H) ∧
  (∀ ls st H, aGo cl none cd_154 0 149 ls st H = aIret 0 st H) ∧
  (∀ ls st H, aGo cl none cd_154 0 150 ls st H = aRLoad (fun st => aGo cl none cd_154 0 151 ls st H) ls 0 st) ∧
  (∀ ls st H, aGo cl none cd_154 0 151 ls st H = aILoad (fun st => aGo cl none cd_154 0 152 ls st H) ls 1 st) ∧
  (∀ ls st H, aGo cl none cd_154 0 152 ls st H = aILoad (fun st => aGo cl none cd_154 0 153 ls st H) ls 3 st) ∧
  (∀ ls st H, aGo cl none cd_154 0 153 ls st H = aCallV (fun st H => aGo cl none cd_154 0 156 ls st H) cl 151 2 8 H st) ∧
  (∀ ls st H, aGo cl none cd_154 0 156 ls st H = aIret 0 st H) :=
  ⟨fun _ _ _ => (aGo_s rfl).trans rfl, fun _ _ _ => (aGo_s rfl).trans rfl, fun _ _ _ => (aGo_s rfl).trans rfl, fun _ _ _ => (aGo_s rfl).trans rfl, fun _ _ _ => (aGo_s rfl).trans rfl, fun _ _ _ => (aGo_s rfl).trans rfl, fun _ _ _ => (aGo_s rfl).trans rfl, fun _ _ _ => (aGo_s rfl).trans rfl, fun _ _ _ => (aGo_s rfl).trans rfl, fun _ _ _ => (aGo_s rfl).trans rfl, fun _ _ _ => (aGo_s rfl).trans rfl, fun _ _ _ => (aGo_s rfl).trans rfl, fun _ _ _ => (aGo_s rfl).trans rfl, fun _ _ _ => (aGo_s rfl).trans rfl, fun _ _ _ => (aGo_s rfl).trans rfl, fun _ _ _ => (aGo_s rfl).trans rfl, fun _ _ _ => (aGo_s rfl).trans rfl, fun _ _ _ => (aGo_s rfl).trans rfl, fun _ _ _ => (aGo_s rfl).trans rfl, fun _ _ _ => (aGo_s rfl).trans rfl, fun _ _ _ => (aGo_s rfl).trans rfl, fun _ _ _ => (aGo_s rfl).trans rfl, fun _ _ _ => (aGo_s rfl).trans rfl, fun _ _ _ => (aGo_s rfl).trans rfl, fun _ _ _ => (aGo_s rfl).trans rfl, fun _ _ _ => (aGo_s rfl).trans rfl, fun _ _ _ => (aGo_s rfl).trans rfl, fun _ _ _ => (aGo_s rfl).trans rfl, fun _ _ _ => (aGo_s rfl).trans rfl, fun _ _ _ => (aGo_s rfl).trans rfl, fun _ _ _ => (aGo_s rfl).trans rfl, fun _ _ _ => (aGo_s rfl).trans rfl, fun _ _ _ => (aGo_s rfl).trans rfl, fun _ _ _ => (aGo_s rfl).trans rfl, fun _ _ _ => (aGo_s rfl).trans rfl, fun _ _ _ => (aGo_s rfl).trans rfl, fun _ _ _ => (aGo_s rfl).trans rfl, fun _ _ _ => (aGo_s rfl).trans rfl, fun _ _ _ => (aGo_s rfl).trans rfl, fun _ _ _ => (aGo_s rfl).trans rfl, fun _ _ _ => (aGo_s rfl).trans rfl, fun _ _ _ => (aGo_s rfl).trans rfl, fun _ _ _ => (aGo_s rfl).trans rfl, fun _ _ _ => (aGo_s rfl).trans rfl, fun _ _ _ => (aGo_s rfl).trans rfl, fun _ _ _ => (aGo_s rfl).trans rfl, fun _ _ _ => (aGo_s rfl).trans rfl, fun _ _ _ => (aGo_s rfl).trans rfl, fun _ _ _ => (aGo_s rfl).trans rfl, fun _ _ _ => (aGo_s rfl).trans rfl, fun _ _ _ => (aGo_s rfl).trans rfl, fun _ _ _ => (aGo_s rfl).trans rfl, fun _ _ _ => (aGo_s rfl).trans rfl, fun _ _ _ => (aGo_s rfl).trans rfl, fun _ _ _ => (aGo_s rfl).trans rfl, fun _ _ _ => (aGo_s rfl).trans rfl, fun _ _ _ => (aGo_s rfl).trans rfl, fun _ _ _ => (aGo_s rfl).trans rfl, fun _ _ _ => (aGo_s rfl).trans rfl, fun _ _ _ => (aGo_s rfl).trans rfl, fun _ _ _ => (aGo_s rfl).trans rfl, fun _ _ _ => (aGo_s rfl).trans rfl, fun _ _ _ => (aGo_s rfl).trans rfl, fun _ _ _ => (aGo_s rfl).trans rfl, fun _ _ _ => (aGo_s rfl).trans rfl, fun _ _ _ => (aGo_s rfl).trans rfl, fun _ _ _ => (aGo_s rfl).trans rfl, fun _ _ _ => (aGo_s rfl).trans rfl, fun _ _ _ => (aGo_s rfl).trans rfl, fun _ _ _ => (aGo_s rfl).trans rfl, fun _ _ _ => (aGo_s rfl).trans rfl, fun _ _ _ => (aGo_s rfl).trans rfl, fun _ _ _ => (aGo_s rfl).trans rfl, fun _ _ _ => (aGo_s rfl).trans rfl, fun _ _ _ => (aGo_s rfl).trans rfl, fun _ _ _ => (aGo_s rfl).trans rfl, fun _ _ _ => (aGo_s rfl).trans rfl, fun _ _ _ => (aGo_s rfl).trans rfl, fun _ _ _ => (aGo_s rfl).trans rfl⟩
theorem e_154 {d : Nat} {x0 : Nat} {x1 : Int32} {x2 : Int32} {H : aH} : aCall aMt (d + 1) 154 [.ref x0, .int x1, .int x2] H = aGo (aCall aMt d) none cd_154 0 0 [some (.ref x0), some (.int x1), some (.int x2), none] [] H := (c_0 rfl ⟨rfl, Nat.le_of_ble_eq_true rfl, Nat.le_of_ble_eq_true rfl⟩).trans rfl
theorem s_155 {cl : Nat → List Value → aH → aRs} : (∀ ls st H, aGo cl none cd_155 0 0 ls st H = aRLoad (fun st => aGo cl none cd_155 0 1 ls st H) ls 0 st) ∧
  (∀ ls st H, aGo cl none cd_155 0 1 ls st H = aILoad (fun st => aGo cl none cd_155 0 2 ls st H) ls 1 st) ∧
  (∀ ls st H, aGo cl none cd_155 0 2 ls st H = aILoad (fun st => aGo cl none cd_155 0 3 ls st H) ls 2 st) ∧
  (∀ ls st H, aGo cl none cd_155 0 3 ls st H = aCallV (fun st H => aGo cl none cd_155 0 6 ls st H) cl 154 2 8 H st) ∧
  (∀ ls st H, aGo cl none cd_155 0 6 ls st H = aRLoad (fun st => aGo cl none cd_155 0 7 ls st H) ls 0 st) ∧
  (∀ ls st H, aGo cl none cd_155 0 7 ls st H = aILoad (fun st => aGo cl none cd_155 0 8 ls st H) ls 2 st) ∧
  (∀ ls st H, aGo cl none cd_155 0 8 ls st H = aGo cl none cd_155 0 9 ls (.int 0 :: st) H) ∧
  (∀ ls st H, aGo cl none cd_155 0 9 ls st H = aCallV (fun st H => aGo cl none cd_155 0 12 ls st H) cl 126 2 8 H st) ∧
  (∀ ls st H, aGo cl none cd_155 0 12 ls st H = aILoad (fun st => aGo cl none cd_155 0 13 ls st H) ls 1 st) ∧
  (∀ ls st H, aGo cl none cd_155 0 13 ls st H = aIc (fun p st => aGo cl none cd_155 0 p ls st H) .ne 20 16 st) ∧
  (∀ ls st H, aGo cl none cd_155 0 16 ls st H = aGo cl none cd_155 0 17 ls (.int 0 :: st) H) ∧
  (∀ ls st H, aGo cl none cd_155 0 17 ls st H = aGo cl none cd_155 0 26 ls st H) ∧
  (∀ ls st H, aGo cl none cd_155 0 20 ls st H = aRLoad (fun st => aGo cl none cd_155 0 21 ls st H) ls 0 st) ∧
  (∀ ls st H, aGo cl none cd_155 0 21 ls st H = aILoad (fun st => aGo cl none cd_155 0 22 ls st H) ls 2 st) ∧
  (∀ ls st H, aGo cl none cd_155 0 22 ls st H = aILoad (fun st => aGo cl none cd_155 0 23 ls st H) ls 3 st) ∧
  (∀ ls st H, aGo cl none cd_155 0 23 ls st H = aCallV (fun st H => aGo cl none cd_155 0 26 ls st H) cl 150 2 8 H st) ∧
  (∀ ls st H, aGo cl none cd_155 0 26 ls st H = aBin (fun st => aGo cl none cd_155 0 27 ls st H) (fun x y => x - y) st) ∧
  (∀ ls st H, aGo cl none cd_155 0 27 ls st H = aIret 0 st H) :=
  ⟨fun _ _ _ => (aGo_s rfl).trans rfl, fun _ _ _ => (aGo_s rfl).trans rfl, fun _ _ _ => (aGo_s rfl).trans rfl, fun _ _ _ => (aGo_s rfl).trans rfl, fun _ _ _ => (aGo_s rfl).trans rfl, fun _ _ _ => (aGo_s rfl).trans rfl, fun _ _ _ => (aGo_s rfl).trans rfl, fun _ _ _ => (aGo_s rfl).trans rfl, fun _ _ _ => (aGo_s rfl).trans rfl, fun _ _ _ => (aGo_s rfl).trans rfl, fun _ _ _ => (aGo_s rfl).trans rfl, fun _ _ _ => (aGo_s rfl).trans rfl, fun _ _ _ => (aGo_s rfl).trans rfl, fun _ _ _ => (aGo_s rfl).trans rfl, fun _ _ _ => (aGo_s rfl).trans rfl, fun _ _ _ => (aGo_s rfl).trans rfl, fun _ _ _ => (aGo_s rfl).trans rfl, fun _ _ _ => (aGo_s rfl).trans rfl⟩
theorem e_155 {d : Nat} {x0 : Nat} {x1 : Int32} {x2 : Int32} {x3 : Int32} {H : aH} : aCall aMt (d + 1) 155 [.ref x0, .int x1, .int x2, .int x3] H = aGo (aCall aMt d) none cd_155 0 0 [some (.ref x0), some (.int x1), some (.int x2), some (.int x3)] [] H := (c_0 rfl ⟨rfl, Nat.le_of_ble_eq_true rfl, Nat.le_of_ble_eq_true rfl⟩).trans rfl
theorem s_156 {cl : Nat → List Value → aH → aRs} : (∀ ls st H, aGo cl none cd_156 1 0 ls st H = aRLoad (fun st => aGo cl none cd_156 1 1 ls st H) ls 0 st) ∧
  (∀ ls st H, aGo cl none cd_156 1 1 ls st H = aILoad (fun st => aGo cl none cd_156 1 2 ls st H) ls 1 st) ∧
  (∀ ls st H, aGo cl none cd_156 1 2 ls st H = aCallV (fun st H => aGo cl none cd_156 1 5 ls st H) cl 129 1 8 H st) ∧
  (∀ ls st H, aGo cl none cd_156 1 5 ls st H = aIf (fun p st => aGo cl none cd_156 1 p ls st H) .eq 21 8 st) ∧
  (∀ ls st H, aGo cl none cd_156 1 8 ls st H = aRLoad (fun st => aGo cl none cd_156 1 9 ls st H) ls 0 st) ∧
  (∀ ls st H, aGo cl none cd_156 1 9 ls st H = aILoad (fun st => aGo cl none cd_156 1 10 ls st H) ls 1 st) ∧
  (∀ ls st H, aGo cl none cd_156 1 10 ls st H = aGo cl none cd_156 1 11 ls (.int 4 :: st) H) ∧
  (∀ ls st H, aGo cl none cd_156 1 11 ls st H = aCallV (fun st H => aGo cl none cd_156 1 14 ls st H) cl 126 2 8 H st) ∧
  (∀ ls st H, aGo cl none cd_156 1 14 ls st H = aIf (fun p st => aGo cl none cd_156 1 p ls st H) .ne 21 17 st) ∧
  (∀ ls st H, aGo cl none cd_156 1 17 ls st H = aGo cl none cd_156 1 18 ls (.int 1 :: st) H) ∧
  (∀ ls st H, aGo cl none cd_156 1 18 ls st H = aGo cl none cd_156 1 22 ls st H) ∧
  (∀ ls st H, aGo cl none cd_156 1 21 ls st H = aGo cl none cd_156 1 22 ls (.int 0 :: st) H) ∧
  (∀ ls st H, aGo cl none cd_156 1 22 ls st H = aIret 1 st H) :=
  ⟨fun _ _ _ => (aGo_s rfl).trans rfl, fun _ _ _ => (aGo_s rfl).trans rfl, fun _ _ _ => (aGo_s rfl).trans rfl, fun _ _ _ => (aGo_s rfl).trans rfl, fun _ _ _ => (aGo_s rfl).trans rfl, fun _ _ _ => (aGo_s rfl).trans rfl, fun _ _ _ => (aGo_s rfl).trans rfl, fun _ _ _ => (aGo_s rfl).trans rfl, fun _ _ _ => (aGo_s rfl).trans rfl, fun _ _ _ => (aGo_s rfl).trans rfl, fun _ _ _ => (aGo_s rfl).trans rfl, fun _ _ _ => (aGo_s rfl).trans rfl, fun _ _ _ => (aGo_s rfl).trans rfl⟩
theorem e_156 {d : Nat} {x0 : Nat} {x1 : Int32} {H : aH} : aCall aMt (d + 1) 156 [.ref x0, .int x1] H = aGo (aCall aMt d) none cd_156 1 0 [some (.ref x0), some (.int x1)] [] H := (c_0 rfl ⟨rfl, Nat.le_of_ble_eq_true rfl, Nat.le_of_ble_eq_true rfl⟩).trans rfl
theorem s_157 {cl : Nat → List Value → aH → aRs} : (∀ ls st H, aGo cl none cd_157 0 0 ls st H = aGo cl none cd_157 0 1 ls (.int (-1) :: st) H) ∧
  (∀ ls st H, aGo cl none cd_157 0 1 ls st H = aIStore (fun ls st => aGo cl none cd_157 0 2 ls st H) ls 3 st) ∧
  (∀ ls st H, aGo cl none cd_157 0 2 ls st H = aGo cl none cd_157 0 3 ls (.int 0 :: st) H) ∧
  (∀ ls st H, aGo cl none cd_157 0 3 ls st H = aIStore (fun ls st => aGo cl none cd_157 0 5 ls st H) ls 4 st) ∧
  (∀ ls st H, aGo cl none cd_157 0 5 ls st H = aGo cl none cd_157 0 6 ls (.int 0 :: st) H) ∧
  (∀ ls st H, aGo cl none cd_157 0 6 ls st H = aIStore (fun ls st => aGo cl none cd_157 0 8 ls st H) ls 5 st) ∧
  (∀ ls st H, aGo cl none cd_157 0 10 ls st H = aRLoad (fun st => aGo cl none cd_157 0 11 ls st H) ls 0 st) ∧
  (∀ ls st H, aGo cl none cd_157 0 11 ls st H = aGet (fun st => aGo cl none cd_157 0 14 ls st H) 8 0 H st) ∧
  (∀ ls st H, aGo cl none cd_157 0 14 ls st H = aGo cl none cd_157 0 16 ls (.int 8 :: st) H) ∧
  (∀ ls st H, aGo cl none cd_157 0 16 ls st H = aIald (fun st => aGo cl none cd_157 0 17 ls st H) none H st) ∧
  (∀ ls st H, aGo cl none cd_157 0 17 ls st H = aIc (fun p st => aGo cl none cd_157 0 p ls st H) .ge 79 20 st) ∧
  (∀ ls st H, aGo cl none cd_157 0 20 ls st H = aRLoad (fun st => aGo cl none cd_157 0 21 ls st H) ls 0 st) ∧
  (∀ ls st H, aGo cl none cd_157 0 21 ls st H = aILoad (fun st => aGo cl none cd_157 0 23 ls st H) ls 5 st) ∧
  (∀ ls st H, aGo cl none cd_157 0 23 ls st H = aCallV (fun st H => aGo cl none cd_157 0 26 ls st H) cl 156 1 8 H st) ∧
  (∀ ls st H, aGo cl none cd_157 0 26 ls st H = aIf (fun p st => aGo cl none cd_157 0 p ls st H) .eq 40 29 st) ∧
  (∀ ls st H, aGo cl none cd_157 0 29 ls st H = aRLoad (fun st => aGo cl none cd_157 0 30 ls st H) ls 0 st) ∧
  (∀ ls st H, aGo cl none cd_157 0 30 ls st H = aILoad (fun st => aGo cl none cd_157 0 31 ls st H) ls 1 st) ∧
  (∀ ls st H, aGo cl none cd_157 0 31 ls st H = aILoad (fun st => aGo cl none cd_157 0 33 ls st H) ls 5 st) ∧
  (∀ ls st H, aGo cl none cd_157 0 33 ls st H = aILoad (fun st => aGo cl none cd_157 0 34 ls st H) ls 2 st) ∧
  (∀ ls st H, aGo cl none cd_157 0 34 ls st H = aCallV (fun st H => aGo cl none cd_157 0 37 ls st H) cl 155 3 8 H st) ∧
  (∀ ls st H, aGo cl none cd_157 0 37 ls st H = aGo cl none cd_157 0 41 ls st H) ∧
  (∀ ls st H, aGo cl none cd_157 0 40 ls st H = aGo cl none cd_157 0 41 ls (.int 0 :: st) H) ∧
  (∀ ls st H, aGo cl none cd_157 0 41 ls st H = aIStore (fun ls st => aGo cl none cd_157 0 43 ls st H) ls 6 st) ∧
  (∀ ls st H, aGo cl none cd_157 0 43 ls st H = aILoad (fun st => aGo cl none cd_157 0 45 ls st H) ls 6 st) ∧
  (∀ ls st H, aGo cl none cd_157 0 45 ls st H = aILoad (fun st => aGo cl none cd_157 0 47 ls st H) ls 4 st) ∧
  (∀ ls st H, aGo cl none cd_157 0 47 ls st H = aIc (fun p st => aGo cl none cd_157 0 p ls st H) .le 55 50 st) ∧
  (∀ ls st H, aGo cl none cd_157 0 50 ls st H = aILoad (fun st => aGo cl none cd_157 0 52 ls st H) ls 5 st) ∧
  (∀ ls st H, aGo cl none cd_157 0 52 ls st H = aGo cl none cd_157 0 56 ls st H) ∧
  (∀ ls st H, aGo cl none cd_157 0 55 ls st H = aILoad (fun st => aGo cl none cd_157 0 56 ls st H) ls 3 st) ∧
  (∀ ls st H, aGo cl none cd_157 0 56 ls st H = aIStore (fun ls st => aGo cl none cd_157 0 57 ls st H) ls 3 st) ∧
  (∀ ls st H, aGo cl none cd_157 0 57 ls st H = aILoad (fun st => aGo cl none cd_157 0 59 ls st H) ls 6 st) ∧
  (∀ ls st H, aGo cl none cd_157 0 59 ls st H = aILoad (fun st => aGo cl none cd_157 0 61 ls st H) ls 4 st) ∧
  (∀ ls st H, aGo cl none cd_157 0 61 ls st H = aIc (fun p st => aGo cl none cd_157 0 p ls st H) .le 69 64 st) ∧
  (∀ ls st H, aGo cl none cd_157 0 64 ls st H = aILoad (fun st => aGo cl none cd_157 0 66 ls st H) ls 6 st) ∧
  (∀ ls st H, aGo cl none cd_157 0 66 ls st H = aGo cl none cd_157 0 71 ls st H) ∧
  (∀ ls st H, aGo cl none cd_157 0 69 ls st H = aILoad (fun st => aGo cl none cd_157 0 71 ls st H) ls 4 st) ∧
  (∀ ls st H, aGo cl none cd_157 0 71 ls st H = aIStore (fun ls st => aGo cl none cd_157 0 73 ls st H) ls 4 st) ∧
  (∀ ls st H, aGo cl none cd_157 0 73 ls st H = aInc (fun ls => aGo cl none cd_157 0 76 ls st H) ls 5 1) ∧
  (∀ ls st H, aGo cl none cd_157 0 76 ls st H = aGo cl none cd_157 0 8 ls st H) ∧
  (∀ ls st H, aGo cl none cd_157 0 79 ls st H = aILoad (fun st => aGo cl none cd_157 0 80 ls st H) ls 3 st) ∧
  (∀ ls st H, aGo cl none cd_157 0 80 ls st H = aIret 0 st H) :=
  ⟨fun _ _ _ => (aGo_s rfl).trans rfl, fun _ _ _ => (aGo_s rfl).trans rfl, fun _ _ _ => (aGo_s rfl).trans rfl, fun _ _ _ => (aGo_s rfl).trans rfl, fun _ _ _ => (aGo_s rfl).trans rfl, fun _ _ _ => (aGo_s rfl).trans rfl, fun _ _ _ => (aGo_s rfl).trans rfl, fun _ _ _ => (aGo_s rfl).trans rfl, fun _ _ _ => (aGo_s rfl).trans rfl, fun _ _ _ => (aGo_s rfl).trans rfl, fun _ _ _ => (aGo_s rfl).trans rfl, fun _ _ _ => (aGo_s rfl).trans rfl, fun _ _ _ => (aGo_s rfl).trans rfl, fun _ _ _ => (aGo_s rfl).trans rfl, fun _ _ _ => (aGo_s rfl).trans rfl, fun _ _ _ => (aGo_s rfl).trans rfl, fun _ _ _ => (aGo_s rfl).trans rfl, fun _ _ _ => (aGo_s rfl).trans rfl, fun _ _ _ => (aGo_s rfl).trans rfl, fun _ _ _ => (aGo_s rfl).trans rfl, fun _ _ _ => (aGo_s rfl).trans rfl, fun _ _ _ => (aGo_s rfl).trans rfl, fun _ _ _ => (aGo_s rfl).trans rfl, fun _ _ _ => (aGo_s rfl).trans rfl, fun _ _ _ => (aGo_s rfl).trans rfl, fun _ _ _ => (aGo_s rfl).trans rfl, fun _ _ _ => (aGo_s rfl).trans rfl, fun _ _ _ => (aGo_s rfl).trans rfl, fun _ _ _ => (aGo_s rfl).trans rfl, fun _ _ _ => (aGo_s rfl).trans rfl, fun _ _ _ => (aGo_s rfl).trans rfl, fun _ _ _ => (aGo_s rfl).trans rfl, fun _ _ _ => (aGo_s rfl).trans rfl, fun _ _ _ => (aGo_s rfl).trans rfl, fun _ _ _ => (aGo_s rfl).trans rfl, fun _ _ _ => (aGo_s rfl).trans rfl, fun _ _ _ => (aGo_s rfl).trans rfl, fun _ _ _ => (aGo_s rfl).trans rfl, fun _ _ _ => (aGo_s rfl).trans rfl, fun _ _ _ => (aGo_s rfl).trans rfl, fun _ _ _ => (aGo_s rfl).trans rfl⟩
theorem s_157_8 {cl : Nat → List Value → aH → aRs} : ∀ ls st H, aGo cl none cd_157 0 8 ls st H = aILoad (fun st => aGo cl none cd_157 0 10 ls st H) ls 5 st := fun _ _ _ => (aGo_s rfl).trans rfl
theorem e_157 {d : Nat} {x0 : Nat} {x1 : Int32} {x2 : Int32} {H : aH} : aCall aMt (d + 1) 157 [.ref x0, .int x1, .int x2] H = aGo (aCall aMt d) none cd_157 0 0 [some (.ref x0), some (.int x1), some (.int x2), none, none, none, none] [] H := (c_0 rfl ⟨rfl, Nat.le_of_ble_eq_true rfl, Nat.le_of_ble_eq_true rfl⟩).trans rfl
theorem s_158 {cl : Nat → List Value → aH → aRs} : (∀ ls st H, aGo cl none cd_158 3 0 ls st H = aRLoad (fun st => aGo cl none cd_158 3 1 ls st H) ls 0 st) ∧
  (∀ ls st H, aGo cl none cd_158 3 1 ls st H = aGet (fun st => aGo cl none cd_158 3 4 ls st H) 8 0 H st) ∧
  (∀ ls st H, aGo cl none cd_158 3 4 ls st H = aILoad (fun st => aGo cl none cd_158 3 5 ls st H) ls 1 st) ∧
  (∀ ls st H, aGo cl none cd_158 3 5 ls st H = aRLoad (fun st => aGo cl none cd_158 3 6 ls st H) ls 0 st) ∧
  (∀ ls st H, aGo cl none cd_158 3 6 ls st H = aGet (fun st => aGo cl none cd_158 3 9 ls st H) 8 0 H st) ∧
  (∀ ls st H, aGo cl none cd_158 3 9 ls st H = aILoad (fun st => aGo cl none cd_158 3 10 ls st H) ls 1 st) ∧
  (∀ ls st H, aGo cl none cd_158 3 10 ls st H = aIald (fun st => aGo cl none cd_158 3 11 ls st H) none H st) ∧
  (∀ ls st H, aGo cl none cd_158 3 11 ls st H = aILoad (fun st => aGo cl none cd_158 3 12 ls st H) ls 2 st) ∧
  (∀ ls st H, aGo cl none cd_158 3 12 ls st H = aBin (fun st => aGo cl none cd_158 3 13 ls st H) (fun x y => x + y) st) ∧
  (∀ ls st H, aGo cl none cd_158 3 13 ls st H = aGo cl none cd_158 3 14 ls (.int 0 :: st) H) ∧
  (∀ ls st H, aGo cl none cd_158 3 14 ls st H = aGo cl none cd_158 3 17 ls (.int 9999 :: st) H) ∧
  (∀ ls st H, aGo cl none cd_158 3 17 ls st H = aCallI (fun st H => aGo cl none cd_158 3 20 ls st H) cl 118 3 H st) ∧
  (∀ ls st H, aGo cl none cd_158 3 20 ls st H = aIast (fun st H => aGo cl none cd_158 3 21 ls st H) H st) ∧
  (∀ ls st H, aGo cl none cd_158 3 21 ls st H = aVret 3 st H) :=
  ⟨fun _ _ _ => (aGo_s rfl).trans rfl, fun _ _ _ => (aGo_s rfl).trans rfl, fun _ _ _ => (aGo_s rfl).trans rfl, fun _ _ _ => (aGo_s rfl).trans rfl, fun _ _ _ => (aGo_s rfl).trans rfl, fun _ _ _ => (aGo_s rfl).trans rfl, fun _ _ _ => (aGo_s rfl).trans rfl, fun _ _ _ => (aGo_s rfl).trans rfl, fun _ _ _ => (aGo_s rfl).trans rfl, fun _ _ _ => (aGo_s rfl).trans rfl, fun _ _ _ => (aGo_s rfl).trans rfl, fun _ _ _ => (aGo_s rfl).trans rfl, fun _ _ _ => (aGo_s rfl).trans rfl, fun _ _ _ => (aGo_s rfl).trans rfl⟩
theorem e_158 {d : Nat} {x0 : Nat} {x1 : Int32} {x2 : Int32} {H : aH} : aCall aMt (d + 1) 158 [.ref x0, .int x1, .int x2] H = aGo (aCall aMt d) none cd_158 3 0 [some (.ref x0), some (.int x1), some (.int x2)] [] H := (c_0 rfl ⟨rfl, Nat.le_of_ble_eq_true rfl, Nat.le_of_ble_eq_true rfl⟩).trans rfl
theorem s_159 {cl : Nat → List Value → aH → aRs} : (∀ ls st H, aGo cl none cd_159 0 0 ls st H = aRLoad (fun st => aGo cl none cd_159 0 1 ls st H) ls 0 st) ∧
  (∀ ls st H, aGo cl none cd_159 0 1 ls st H = aILoad (fun st => aGo cl none cd_159 0 2 ls st H) ls 1 st) ∧
  (∀ ls st H, aGo cl none cd_159 0 2 ls st H = aILoad (fun st => aGo cl none cd_159 0 3 ls st H) ls 2 st) ∧
  (∀ ls st H, aGo cl none cd_159 0 3 ls st H = aCallV (fun st H => aGo cl none cd_159 0 6 ls st H) cl 157 2 8 H st) ∧
  (∀ ls st H, aGo cl none cd_159 0 6 ls st H = aIStore (fun ls st => aGo cl none cd_159 0 7 ls st H) ls 3 st) ∧
  (∀ ls st H, aGo cl none cd_159 0 7 ls st H = aILoad (fun st => aGo cl none cd_159 0 8 ls st H) ls 3 st) ∧
  (∀ ls st H, aGo cl none cd_159 0 8 ls st H = aGo cl none cd_159 0 9 ls (.int (-1) :: st) H) ∧
  (∀ ls st H, aGo cl none cd_159 0 9 ls st H = aIc (fun p st => aGo cl none cd_159 0 p ls st H) .ne 14 12 st) ∧
  (∀ ls st H, aGo cl none cd_159 0 12 ls st H = aGo cl none cd_159 0 13 ls (.int (-1) :: st) H) ∧
  (∀ ls st H, aGo cl none cd_159 0 13 ls st H = aIret 0 st H) ∧
  (∀ ls st H, aGo cl none cd_159 0 14 ls st H = aRLoad (fun st => aGo cl none cd_159 0 15 ls st H) ls 0 st) ∧
  (∀ ls st H, aGo cl none cd_159 0 15 ls st H = aILoad (fun st => aGo cl none cd_159 0 16 ls st H) ls 3 st) ∧
  (∀ ls st H, aGo cl none cd_159 0 16 ls st H = aGo cl none cd_159 0 17 ls (.int 0 :: st) H) ∧
  (∀ ls st H, aGo cl none cd_159 0 17 ls st H = aCallV (fun st H => aGo cl none cd_159 0 20 ls st H) cl 126 2 8 H st) ∧
  (∀ ls st H, aGo cl none cd_159 0 20 ls st H = aIStore (fun ls st => aGo cl none cd_159 0 22 ls st H) ls 4 st) ∧
  (∀ ls st H, aGo cl none cd_159 0 22 ls st H = aRLoad (fun st => aGo cl none cd_159 0 23 ls st H) ls 0 st) ∧
  (∀ ls st H, aGo cl none cd_159 0 23 ls st H = aILoad (fun st => aGo cl none cd_159 0 24 ls st H) ls 3 st) ∧
  (∀ ls st H, aGo cl none cd_159 0 24 ls st H = aGo cl none cd_159 0 25 ls (.int 5 :: st) H) ∧
  (∀ ls st H, aGo cl none cd_159 0 25 ls st H = aGo cl none cd_159 0 26 ls (.int 0 :: st) H) ∧
  (∀ ls st H, aGo cl none cd_159 0 26 ls st H = aCallV (fun st H => aGo cl none cd_159 0 29 ls st H) cl 127 3 8 H st) ∧
  (∀ ls st H, aGo cl none cd_159 0 29 ls st H = aRLoad (fun st => aGo cl none cd_159 0 30 ls st H) ls 0 st) ∧
  (∀ ls st H, aGo cl none cd_159 0 30 ls st H = aILoad (fun st => aGo cl none cd_159 0 31 ls st H) ls 3 st) ∧
  (∀ ls st H, aGo cl none cd_159 0 31 ls st H = aGo cl none cd_159 0 33 ls (.int 6 :: st) H) ∧
  (∀ ls st H, aGo cl none cd_159 0 33 ls st H = aILoad (fun st => aGo cl none cd_159 0 34 ls st H) ls 1 st) ∧
  (∀ ls st H, aGo cl none cd_159 0 34 ls st H = aCallV (fun st H => aGo cl none cd_159 0 37 ls st H) cl 127 3 8 H st) ∧
  (∀ ls st H, aGo cl none cd_159 0 37 ls st H = aRLoad (fun st => aGo cl none cd_159 0 38 ls st H) ls 0 st) ∧
  (∀ ls st H, aGo cl none cd_159 0 38 ls st H = aILoad (fun st => aGo cl none cd_159 0 39 ls st H) ls 1 st) ∧
  (∀ ls st H, aGo cl none cd_159 0 39 ls st H = aGo cl none cd_159 0 40 ls (.int 0 :: st) H) ∧
  (∀ ls st H, aGo cl none cd_159 0 40 ls st H = aCallV (fun st H => aGo cl none cd_159 0 43 ls st H) cl 124 2 8 H st) ∧
  (∀ ls st H, aGo cl none cd_159 0 43 ls st H = aGo cl none cd_159 0 45 ls (.int 6 :: st) H) ∧
  (∀ ls st H, aGo cl none cd_159 0 45 ls st H = aIc (fun p st => aGo cl none cd_159 0 p ls st H) .ne 56 48 st) ∧
  (∀ ls st H, aGo cl none cd_159 0 48 ls st H = aRLoad (fun st => aGo cl none cd_159 0 49 ls st H) ls 0 st) ∧
  (∀ ls st H, aGo cl none cd_159 0 49 ls st H = aGo cl none cd_159 0 50 ls (.int 3 :: st) H) ∧
  (∀ ls st H, aGo cl none cd_159 0 50 ls st H = aGo cl none cd_159 0 51 ls (.int 1 :: st) H) ∧
  (∀ ls st H, aGo cl none cd_159 0 51 ls st H = aCallV (fun st H => aGo cl none cd_159 0 54 ls st H) cl 158 2 8 H st) ∧
  (∀ ls st H, aGo cl none cd_159 0 54 ls st H = aILoad (fun st => aGo cl none cd_159 0 55 ls st H) ls 3 st) ∧
  (∀ ls st H, aGo cl none cd_159 0 55 ls st H = aIret 0 st H) ∧
  (∀ ls st H, aGo cl none cd_159 0 56 ls st H = aRLoad (fun st => aGo cl none cd_159 0 57 ls st H) ls 0 st) ∧
  (∀ ls st H, aGo cl none cd_159 0 57 ls st H = aILoad (fun st => aGo cl none cd_159 0 58 ls st H) ls 1 st) ∧
  (∀ ls st H, aGo cl none cd_159 0 58 ls st H = aGo cl none cd_159 0 59 ls (.int 2 :: st) H) ∧
  (∀ ls st H, aGo cl none cd_159 0 59 ls st H = aGo cl none cd_159 0 60 ls (.int 0 :: st) H) ∧
  (∀ ls st H, aGo cl none cd_159 0 60 ls st H = aCallV (fun st H => aGo cl none cd_159 0 63 ls st H) cl 125 3 8 H st) ∧
  (∀ ls st H, aGo cl none cd_159 0 63 ls st H = aRLoad (fun st => aGo cl none cd_159 0 64 ls st H) ls 0 st) ∧
  (∀ ls st H, aGo cl none cd_159 0 64 ls st H = aILoad (fun st => aGo cl none cd_159 0 66 ls st H) ls 4 st) ∧
  (∀ ls st H, aGo cl none cd_159 0 66 ls st H = aILoad (fun st => aGo cl none cd_159 0 67 ls st H) ls 1 st) ∧
  (∀ ls st H, aGo cl none cd_159 0 67 ls st H = aIc (fun p st => aGo cl none cd_159 0 p ls st H) .ne 74 70 st) ∧
  (∀ ls st H, aGo cl none cd_159 0 70 ls st H = aGo cl none cd_159 0 71 ls (.int 2 :: st) H) ∧
  (∀ ls st H, aGo cl none cd_159 0 71 ls st H = aGo cl none cd_159 0 75 ls st H) ∧
  (∀ ls st H, aGo cl none cd_159 0 74 ls st H = aGo cl none cd_159 0 75 ls (.int 1 :: st) H) ∧
  (∀ ls st H, aGo cl none cd_159 0 75 ls st H = aGo cl none cd_159 0 76 ls (.int 1 :: st) H) ∧
  (∀ ls st H, aGo cl none cd_159 0 76 ls st H = aCallV (fun st H => aGo cl none cd_159 0 79 ls st H) cl 158 2 8 H st) ∧
  (∀ ls st H, aGo cl none cd_159 0 79 ls st H = aILoad (fun st => aGo cl none cd_159 0 81 ls st H) ls 4 st) ∧
  (∀ ls st H, aGo cl none cd_159 0 81 ls st H = aILoad (fun st => aGo cl none cd_159 0 82 ls st H) ls 1 st) ∧
  (∀ ls st H, aGo cl none cd_159 0 82 ls st H = aIc (fun p st => aGo cl none cd_159 0 p ls st H) .eq 107 85 st) ∧
  (∀ ls st H, aGo cl none cd_159 0 85 ls st H = aRLoad (fun st => aGo cl none cd_159 0 86 ls st H) ls 0 st) ∧
  (∀ ls st H, aGo cl none cd_159 0 86 ls st H = aILoad (fun st => aGo cl none cd_159 0 88 ls st H) ls 4 st) ∧
  (∀ ls st H, aGo cl none cd_159 0 88 ls st H = aGo cl none cd_159 0 89 ls (.int 3 :: st) H) ∧
  (∀ ls st H, aGo cl none cd_159 0 89 ls st H = aRLoad (fun st => aGo cl none cd_159 0 90 ls st H) ls 0 st) ∧
  (∀ ls st H, aGo cl none cd_159 0 90 ls st H = aILoad (fun st => aGo cl none cd_159 0 92 ls st H) ls 4 st) ∧
  (∀ ls st H, aGo cl none cd_159 0 92 ls st H = aGo cl none cd_159 0 93 ls (.int 3 :: st) H) ∧
  (∀ ls st H, aGo cl none cd_159 0 93 ls st H = aCallV (fun st H => aGo cl none cd_159 0 96 ls st H) cl 124 2 8 H st) ∧
  (∀ ls st H, aGo cl none cd_159 0 96 ls st H = aGo cl none cd_159 0 97 ls (.int 1 :: st) H) ∧
  (∀ ls st H, aGo cl none cd_159 0 97 ls st H = aBin (fun st => aGo cl none cd_159 0 98 ls st H) (fun x y => x + y) st) ∧
  (∀ ls st H, aGo cl none cd_159 0 98 ls st H = aGo cl none cd_159 0 99 ls (.int 0 :: st) H) ∧
  (∀ ls st H, aGo cl none cd_159 0 99 ls st H = aGo cl none cd_159 0 101 ls (.int 9 :: st) H) ∧
  (∀ ls st H, aGo cl none cd_159 0 101 ls st H = aCallI (fun st H => aGo cl none cd_159 0 104 ls st H) cl 118 3 H st) ∧
  (∀ ls st H, aGo cl none cd_159 0 104 ls st H = aCallV (fun st H => aGo cl none cd_159 0 107 ls st H) cl 125 3 8 H st) ∧
  (∀ ls st H, aGo cl none cd_159 0 107 ls st H = aILoad (fun st => aGo cl none cd_159 0 108 ls st H) ls 3 st) ∧
  (∀ ls st H, aGo cl none cd_159 0 108 ls st H = aIret 0 st H) :=
  ⟨fun _ _ _ => (aGo_s rfl).trans rfl, fun _ _ _ => (aGo_s rfl).trans rfl, fun _ _ _ => (aGo_s rfl).trans rfl, fun _ _ _ => (aGo_s rfl).trans rfl, fun _ _ _ => (aGo_s rfl).trans rfl, fun _ _ _ => (aGo_s rfl).trans rfl, fun _ _ _ => (aGo_s rfl).trans rfl, fun _ _ _ => (aGo_s rfl).trans rfl, fun _ _ _ => (aGo_s rfl).trans rfl, fun _ _ _ => (aGo_s rfl).trans rfl, fun _ _ _ => (aGo_s rfl).trans rfl, fun _ _ _ => (aGo_s rfl).trans rfl, fun _ _ _ => (aGo_s rfl).trans rfl, fun _ _ _ => (aGo_s rfl).trans rfl, fun _ _ _ => (aGo_s rfl).trans rfl, fun _ _ _ => (aGo_s rfl).trans rfl, fun _ _ _ => (aGo_s rfl).trans rfl, fun _ _ _ => (aGo_s rfl).trans rfl, fun _ _ _ => (aGo_s rfl).trans rfl, fun _ _ _ => (aGo_s rfl).trans rfl, fun _ _ _ => (aGo_s rfl).trans rfl, fun _ _ _ => (aGo_s rfl).trans rfl, fun _ _ _ => (aGo_s rfl).trans rfl, fun _ _ _ => (aGo_s rfl).trans rfl, fun _ _ _ => (aGo_s rfl).trans rfl, fun _ _ _ => (aGo_s rfl).trans rfl, fun _ _ _ => (aGo_s rfl).trans rfl, fun _ _ _ => (aGo_s rfl).trans rfl, fun _ _ _ => (aGo_s rfl).trans rfl, fun _ _ _ => (aGo_s rfl).trans rfl, fun _ _ _ => (aGo_s rfl).trans rfl, fun _ _ _ => (aGo_s rfl).trans rfl, fun _ _ _ => (aGo_s rfl).trans rfl, fun _ _ _ => (aGo_s rfl).trans rfl, fun _ _ _ => (aGo_s rfl).trans rfl, fun _ _ _ => (aGo_s rfl).trans rfl, fun _ _ _ => (aGo_s rfl).trans rfl, fun _ _ _ => (aGo_s rfl).trans rfl, fun _ _ _ => (aGo_s rfl).trans rfl, fun _ _ _ => (aGo_s rfl).trans rfl, fun _ _ _ => (aGo_s rfl).trans rfl, fun _ _ _ => (aGo_s rfl).trans rfl, fun _ _ _ => (aGo_s rfl).trans rfl, fun _ _ _ => (aGo_s rfl).trans rfl, fun _ _ _ => (aGo_s rfl).trans rfl, fun _ _ _ => (aGo_s rfl).trans rfl, fun _ _ _ => (aGo_s rfl).trans rfl, fun _ _ _ => (aGo_s rfl).trans rfl, fun _ _ _ => (aGo_s rfl).trans rfl, fun _ _ _ => (aGo_s rfl).trans rfl, fun _ _ _ => (aGo_s rfl).trans rfl, fun _ _ _ => (aGo_s rfl).trans rfl, fun _ _ _ => (aGo_s rfl).trans rfl, fun _ _ _ => (aGo_s rfl).trans rfl, fun _ _ _ => (aGo_s rfl).trans rfl, fun _ _ _ => (aGo_s rfl).trans rfl, fun _ _ _ => (aGo_s rfl).trans rfl, fun _ _ _ => (aGo_s rfl).trans rfl, fun _ _ _ => (aGo_s rfl).trans rfl, fun _ _ _ => (aGo_s rfl).trans rfl, fun _ _ _ => (aGo_s rfl).trans rfl, fun _ _ _ => (aGo_s rfl).trans rfl, fun _ _ _ => (aGo_s rfl).trans rfl, fun _ _ _ => (aGo_s rfl).trans rfl, fun _ _ _ => (aGo_s rfl).trans rfl, fun _ _ _ => (aGo_s rfl).trans rfl, fun _ _ _ => (aGo_s rfl).trans rfl, fun _ _ _ => (aGo_s rfl).trans rfl, fun _ _ _ => (aGo_s rfl).trans rfl⟩
theorem e_159 {d : Nat} {x0 : Nat} {x1 : Int32} {x2 : Int32} {H : aH} : aCall aMt (d + 1) 159 [.ref x0, .int x1, .int x2] H = aGo (aCall aMt d) none cd_159 0 0 [some (.ref x0), some (.int x1), some (.int x2), none, none] [] H := (c_0 rfl ⟨rfl, Nat.le_of_ble_eq_true rfl, Nat.le_of_ble_eq_true rfl⟩).trans rfl
