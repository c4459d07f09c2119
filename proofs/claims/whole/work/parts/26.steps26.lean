/-! rewriting rows: an instruction a row; loop heads stand alone (by program) -/
theorem s_200 {cl : Nat → List Value → aH → aRs} : (∀ ls st H, aGo cl none cd_200 0 0 ls st H = aILoad (fun st => aGo cl none cd_200 0 1 ls st H) ls 1 st) ∧
  (∀ ls st H, aGo cl none cd_200 0 1 ls st H = aSwS (fun p st => aGo cl none cd_200 0 p ls st H) [(0, 44), (1, 57), (2, 102), (3, 102), (4, 75), (5, 102), (6, 93)] 102 st) ∧
  (∀ ls st H, aGo cl none cd_200 0 44 ls st H = aRLoad (fun st => aGo cl none cd_200 0 45 ls st H) ls 0 st) ∧
  (∀ ls st H, aGo cl none cd_200 0 45 ls st H = aGo cl none cd_200 0 47 ls (.int 10 :: st) H) ∧
  (∀ ls st H, aGo cl none cd_200 0 47 ls st H = aCallV (fun st H => aGo cl none cd_200 0 50 ls st H) cl 196 1 8 H st) ∧
  (∀ ls st H, aGo cl none cd_200 0 50 ls st H = aILoad (fun st => aGo cl none cd_200 0 51 ls st H) ls 2 st) ∧
  (∀ ls st H, aGo cl none cd_200 0 51 ls st H = aRLoad (fun st => aGo cl none cd_200 0 52 ls st H) ls 0 st) ∧
  (∀ ls st H, aGo cl none cd_200 0 52 ls st H = aGet (fun st => aGo cl none cd_200 0 55 ls st H) 8 16 H st) ∧
  (∀ ls st H, aGo cl none cd_200 0 55 ls st H = aBin (fun st => aGo cl none cd_200 0 56 ls st H) (fun x y => x + y) st) ∧
  (∀ ls st H, aGo cl none cd_200 0 56 ls st H = aIret 0 st H) ∧
  (∀ ls st H, aGo cl none cd_200 0 57 ls st H = aRLoad (fun st => aGo cl none cd_200 0 58 ls st H) ls 0 st) ∧
  (∀ ls st H, aGo cl none cd_200 0 58 ls st H = aGo cl none cd_200 0 60 ls (.int 20 :: st) H) ∧
  (∀ ls st H, aGo cl none cd_200 0 60 ls st H = aCallV (fun st H => aGo cl none cd_200 0 63 ls st H) cl 196 1 8 H st) ∧
  (∀ ls st H, aGo cl none cd_200 0 63 ls st H = aRLoad (fun st => aGo cl none cd_200 0 64 ls st H) ls 0 st) ∧
  (∀ ls st H, aGo cl none cd_200 0 64 ls st H = aGo cl none cd_200 0 65 ls (.int 1 :: st) H) ∧
  (∀ ls st H, aGo cl none cd_200 0 65 ls st H = aCallI (fun st H => aGo cl none cd_200 0 68 ls st H) cl 197 1 H st) ∧
  (∀ ls st H, aGo cl none cd_200 0 68 ls st H = aILoad (fun st => aGo cl none cd_200 0 69 ls st H) ls 2 st) ∧
  (∀ ls st H, aGo cl none cd_200 0 69 ls st H = aCallV (fun st H => aGo cl none cd_200 0 72 ls st H) cl 200 2 8 H st) ∧
  (∀ ls st H, aGo cl none cd_200 0 72 ls st H = aGo cl none cd_200 0 73 ls (.int 4 :: st) H) ∧
  (∀ ls st H, aGo cl none cd_200 0 73 ls st H = aBin (fun st => aGo cl none cd_200 0 74 ls st H) (fun x y => x - y) st) ∧
  (∀ ls st H, aGo cl none cd_200 0 74 ls st H = aIret 0 st H) ∧
  (∀ ls st H, aGo cl none cd_200 0 75 ls st H = aRLoad (fun st => aGo cl none cd_200 0 76 ls st H) ls 0 st) ∧
  (∀ ls st H, aGo cl none cd_200 0 76 ls st H = aGo cl none cd_200 0 78 ls (.int 50 :: st) H) ∧
  (∀ ls st H, aGo cl none cd_200 0 78 ls st H = aCallV (fun st H => aGo cl none cd_200 0 81 ls st H) cl 196 1 8 H st) ∧
  (∀ ls st H, aGo cl none cd_200 0 81 ls st H = aRLoad (fun st => aGo cl none cd_200 0 82 ls st H) ls 0 st) ∧
  (∀ ls st H, aGo cl none cd_200 0 82 ls st H = aGo cl none cd_200 0 83 ls (.int 4 :: st) H) ∧
  (∀ ls st H, aGo cl none cd_200 0 83 ls st H = aCallI (fun st H => aGo cl none cd_200 0 86 ls st H) cl 197 1 H st) ∧
  (∀ ls st H, aGo cl none cd_200 0 86 ls st H = aILoad (fun st => aGo cl none cd_200 0 87 ls st H) ls 2 st) ∧
  (∀ ls st H, aGo cl none cd_200 0 87 ls st H = aCallV (fun st H => aGo cl none cd_200 0 90 ls st H) cl 200 2 8 H st) ∧
  (∀ ls st H, aGo cl none cd_200 0 90 ls st H = aGo cl none cd_200 0 91 ls (.int 3 :: st) H) ∧
  (∀ ls st H, aGo cl none cd_200 0 91 ls st H = aBin (fun st => aGo cl none cd_200 0 92 ls st H) (fun x y => x * y) st) ∧
  (∀ ls st H, aGo cl none cd_200 0 92 ls st H = aIret 0 st H) ∧
  (∀ ls st H, aGo cl none cd_200 0 93 ls st H = aRLoad (fun st => aGo cl none cd_200 0 94 ls st H) ls 0 st) ∧
  (∀ ls st H, aGo cl none cd_200 0 94 ls st H = aGo cl none cd_200 0 96 ls (.int 70 :: st) H) ∧
  (∀ ls st H, aGo cl none cd_200 0 96 ls st H = aCallV (fun st H => aGo cl none cd_200 0 99 ls st H) cl 196 1 8 H st) ∧
  (∀ ls st H, aGo cl none cd_200 0 99 ls st H = aGo cl none cd_200 0 101 ls (.int 9 :: st) H) ∧
  (∀ ls st H, aGo cl none cd_200 0 101 ls st H = aIret 0 st H) ∧
  (∀ ls st H, aGo cl none cd_200 0 102 ls st H = aRLoad (fun st => aGo cl none cd_200 0 103 ls st H) ls 0 st) ∧
  (∀ ls st H, aGo cl none cd_200 0 103 ls st H = aILoad (fun st => aGo cl none cd_200 0 104 ls st H) ls 1 st) ∧
  (∀ ls st H, aGo cl none cd_200 0 104 ls st H = aCallI (fun st H => aGo cl none cd_200 0 107 ls st H) cl 197 1 H st) ∧
  (∀ ls st H, aGo cl none cd_200 0 107 ls st H = aILoad (fun st => aGo cl none cd_200 0 108 ls st H) ls 2 st) ∧
  (∀ ls st H, aGo cl none cd_200 0 108 ls st H = aCallV (fun st H => aGo cl none cd_200 0 111 ls st H) cl 200 2 8 H st) ∧
  (∀ ls st H, aGo cl none cd_200 0 111 ls st H = aIret 0 st H) :=
  ⟨fun _ _ _ => (aGo_s rfl).trans rfl, fun _ _ _ => (aGo_s rfl).trans rfl, fun _ _ _ => (aGo_s rfl).trans rfl, fun _ _ _ => (aGo_s rfl).trans rfl, fun _ _ _ => (aGo_s rfl).trans rfl, fun _ _ _ => (aGo_s rfl).trans rfl, fun _ _ _ => (aGo_s rfl).trans rfl, fun _ _ _ => (aGo_s rfl).trans rfl, fun _ _ _ => (aGo_s rfl).trans rfl, fun _ _ _ => (aGo_s rfl).trans rfl, fun _ _ _ => (aGo_s rfl).trans rfl, fun _ _ _ => (aGo_s rfl).trans rfl, fun _ _ _ => (aGo_s rfl).trans rfl, fun _ _ _ => (aGo_s rfl).trans rfl, fun _ _ _ => (aGo_s rfl).trans rfl, fun _ _ _ => (aGo_s rfl).trans rfl, fun _ _ _ => (aGo_s rfl).trans rfl, fun _ _ _ => (aGo_s rfl).trans rfl, fun _ _ _ => (aGo_s rfl).trans rfl, fun _ _ _ => (aGo_s rfl).trans rfl, fun _ _ _ => (aGo_s rfl).trans rfl, fun _ _ _ => (aGo_s rfl).trans rfl, fun _ _ _ => (aGo_s rfl).trans rfl, fun _ _ _ => (aGo_s rfl).trans rfl, fun _ _ _ => (aGo_s rfl).trans rfl, fun _ _ _ => (aGo_s rfl).trans rfl, fun _ _ _ => (aGo_s rfl).trans rfl, fun _ _ _ => (aGo_s rfl).trans rfl, fun _ _ _ => (aGo_s rfl).trans rfl, fun _ _ _ => (aGo_s rfl).trans rfl, fun _ _ _ => (aGo_s rfl).trans rfl, fun _ _ _ => (aGo_s rfl).trans rfl, fun _ _ _ => (aGo_s rfl).trans rfl, fun _ _ _ => (aGo_s rfl).trans rfl, fun _ _ _ => (aGo_s rfl).trans rfl, fun _ _ _ => (aGo_s rfl).trans rfl, fun _ _ _ => (aGo_s rfl).trans rfl, fun _ _ _ => (aGo_s rfl).trans rfl, fun _ _ _ => (aGo_s rfl).trans rfl, fun _ _ _ => (aGo_s rfl).trans rfl, fun _ _ _ => (aGo_s rfl).trans rfl, fun _ _ _ => (aGo_s rfl).trans rfl, fun _ _ _ => (aGo_s rfl).trans rfl⟩
theorem e_200 {d : Nat} {x0 : Nat} {x1 : Int32} {x2 : Int32} {H : aH} : aCall aMt (d + 1) 200 [.ref x0, .int x1, .int x2] H = aGo (aCall aMt d) none cd_200 0 0 [some (.ref x0), some (.int x1), some (.int x2)] [] H := (c_0 rfl ⟨rfl, Nat.le_of_ble_eq_true rfl, Nat.le_of_ble_eq_true rfl⟩).trans rfl
theorem s_201 {cl : Nat → List Value → aH → aRs} : (∀ ls st H, aGo cl none cd_201 0 0 ls st H = aILoad (fun st => aGo cl none cd_201 0 1 ls st H) ls 1 st) ∧
  (∀ ls st H, aGo cl none cd_201 0 1 ls st H = aSwS (fun p st => aGo cl none cd_201 0 p ls st H) [(0, 44), (1, 120), (2, 62), (3, 120), (4, 120), (5, 80), (6, 98)] 120 st) ∧
  (∀ ls st H, aGo cl none cd_201 0 44 ls st H = aRLoad (fun st => aGo cl none cd_201 0 45 ls st H) ls 0 st) ∧
  (∀ ls st H, aGo cl none cd_201 0 45 ls st H = aGo cl none cd_201 0 47 ls (.int 11 :: st) H) ∧
  (∀ ls st H, aGo cl none cd_201 0 47 ls st H = aCallV (fun st H => aGo cl none cd_201 0 50 ls st H) cl 196 1 8 H st) ∧
  (∀ ls st H, aGo cl none cd_201 0 50 ls st H = aRLoad (fun st => aGo cl none cd_201 0 51 ls st H) ls 0 st) ∧
  (∀ ls st H, aGo cl none cd_201 0 51 ls st H = aRLoad (fun st => aGo cl none cd_201 0 52 ls st H) ls 0 st) ∧
  (∀ ls st H, aGo cl none cd_201 0 52 ls st H = aCallV (fun st H => aGo cl none cd_201 0 55 ls st H) cl 198 0 8 H st) ∧
  (∀ ls st H, aGo cl none cd_201 0 55 ls st H = aILoad (fun st => aGo cl none cd_201 0 56 ls st H) ls 2 st) ∧
  (∀ ls st H, aGo cl none cd_201 0 56 ls st H = aCallV (fun st H => aGo cl none cd_201 0 59 ls st H) cl 200 2 8 H st) ∧
  (∀ ls st H, aGo cl none cd_201 0 59 ls st H = aGo cl none cd_201 0 60 ls (.int 2 :: st) H) ∧
  (∀ ls st H, aGo cl none cd_201 0 60 ls st H = aBin (fun st => aGo cl none cd_201 0 61 ls st H) (fun x y => x * y) st) ∧
  (∀ ls st H, aGo cl none cd_201 0 61 ls st H = aIret 0 st H) ∧
  (∀ ls st H, aGo cl none cd_201 0 62 ls st H = aRLoad (fun st => aGo cl none cd_201 0 63 ls st H) ls 0 st) ∧
  (∀ ls st H, aGo cl none cd_201 0 63 ls st H = aGo cl none cd_201 0 65 ls (.int 30 :: st) H) ∧
  (∀ ls st H, aGo cl none cd_201 0 65 ls st H = aCallV (fun st H => aGo cl none cd_201 0 68 ls st H) cl 196 1 8 H st) ∧
  (∀ ls st H, aGo cl none cd_201 0 68 ls st H = aGo cl none cd_201 0 69 ls (.int 0 :: st) H) ∧
  (∀ ls st H, aGo cl none cd_201 0 69 ls st H = aRLoad (fun st => aGo cl none cd_201 0 70 ls st H) ls 0 st) ∧
  (∀ ls st H, aGo cl none cd_201 0 70 ls st H = aGo cl none cd_201 0 71 ls (.int 2 :: st) H) ∧
  (∀ ls st H, aGo cl none cd_201 0 71 ls st H = aCallI (fun st H => aGo cl none cd_201 0 74 ls st H) cl 197 1 H st) ∧
  (∀ ls st H, aGo cl none cd_201 0 74 ls st H = aILoad (fun st => aGo cl none cd_201 0 75 ls st H) ls 2 st) ∧
  (∀ ls st H, aGo cl none cd_201 0 75 ls st H = aCallV (fun st H => aGo cl none cd_201 0 78 ls st H) cl 201 2 8 H st) ∧
  (∀ ls st H, aGo cl none cd_201 0 78 ls st H = aBin (fun st => aGo cl none cd_201 0 79 ls st H) (fun x y => x - y) st) ∧
  (∀ ls st H, aGo cl none cd_201 0 79 ls st H = aIret 0 st H) ∧
  (∀ ls st H, aGo cl none cd_201 0 80 ls st H = aRLoad (fun st => aGo cl none cd_201 0 81 ls st H) ls 0 st) ∧
  (∀ ls st H, aGo cl none cd_201 0 81 ls st H = aGo cl none cd_201 0 83 ls (.int 60 :: st) H) ∧
  (∀ ls st H, aGo cl none cd_201 0 83 ls st H = aCallV (fun st H => aGo cl none cd_201 0 86 ls st H) cl 196 1 8 H st) ∧
  (∀ ls st H, aGo cl none cd_201 0 86 ls st H = aRLoad (fun st => aGo cl none cd_201 0 87 ls st H) ls 0 st) ∧
  (∀ ls st H, aGo cl none cd_201 0 87 ls st H = aGo cl none cd_201 0 88 ls (.int 5 :: st) H) ∧
  (∀ ls st H, aGo cl none cd_201 0 88 ls st H = aCallI (fun st H => aGo cl none cd_201 0 91 ls st H) cl 197 1 H st) ∧
  (∀ ls st H, aGo cl none cd_201 0 91 ls st H = aILoad (fun st => aGo cl none cd_201 0 92 ls st H) ls 2 st) ∧
  (∀ ls st H, aGo cl none cd_201 0 92 ls st H = aGo cl none cd_201 0 93 ls (.int 1 :: st) H) ∧
  (∀ ls st H, aGo cl none cd_201 0 93 ls st H = aBin (fun st => aGo cl none cd_201 0 94 ls st H) (fun x y => x + y) st) ∧
  (∀ ls st H, aGo cl none cd_201 0 94 ls st H = aCallV (fun st H => aGo cl none cd_201 0 97 ls st H) cl 201 2 8 H st) ∧
  (∀ ls st H, aGo cl none cd_201 0 97 ls st H = aIret 0 st H) ∧
  (∀ ls st H, aGo cl none cd_201 0 98 ls st H = aRLoad (fun st => aGo cl none cd_201 0 99 ls st H) ls 0 st) ∧
  (∀ ls st H, aGo cl none cd_201 0 99 ls st H = aGo cl none cd_201 0 101 ls (.int 71 :: st) H) ∧
  (∀ ls st H, aGo cl none cd_201 0 101 ls st H = aCallV (fun st H => aGo cl none cd_201 0 104 ls st H) cl 196 1 8 H st) ∧
  (∀ ls st H, aGo cl none cd_201 0 104 ls st H = aRLoad (fun st => aGo cl none cd_201 0 105 ls st H) ls 0 st) ∧
  (∀ ls st H, aGo cl none cd_201 0 105 ls st H = aGo cl none cd_201 0 107 ls (.int 6 :: st) H) ∧
  (∀ ls st H, aGo cl none cd_201 0 107 ls st H = aCallI (fun st H => aGo cl none cd_201 0 110 ls st H) cl 197 1 H st) ∧
  (∀ ls st H, aGo cl none cd_201 0 110 ls st H = aILoad (fun st => aGo cl none cd_201 0 111 ls st H) ls 2 st) ∧
  (∀ ls st H, aGo cl none cd_201 0 111 ls st H = aCallV (fun st H => aGo cl none cd_201 0 114 ls st H) cl 201 2 8 H st) ∧
  (∀ ls st H, aGo cl none cd_201 0 114 ls st H = aRLoad (fun st => aGo cl none cd_201 0 115 ls st H) ls 0 st) ∧
  (∀ ls st H, aGo cl none cd_201 0 115 ls st H = aCallV (fun st H => aGo cl none cd_201 0 118 ls st H) cl 199 0 8 H st) ∧
  (∀ ls st H, aGo cl none cd_201 0 118 ls st H = aBin (fun st => aGo cl none cd_201 0 119 ls st H) (fun x y => x + y) st) ∧
  (∀ ls st H, aGo cl none cd_201 0 119 ls st H = aIret 0 st H) ∧
  (∀ ls st H, aGo cl none cd_201 0 120 ls st H = aRLoad (fun st => aGo cl none cd_201 0 121 ls st H) ls 0 st) ∧
  (∀ ls st H, aGo cl none cd_201 0 121 ls st H = aILoad (fun st => aGo cl none cd_201 0 122 ls st H) ls 1 st) ∧
  (∀ ls st H, aGo cl none cd_201 0 122 ls st H = aCallI (fun st H => aGo cl none cd_201 0 125 ls st H) cl 197 1 H st) ∧
  (∀ ls st H, aGo cl none cd_201 0 125 ls st H = aILoad (fun st => aGo cl none cd_201 0 126 ls st H) ls 2 st) ∧
  (∀ ls st H, aGo cl none cd_201 0 126 ls st H = aCallV (fun st H => aGo cl none cd_201 0 129 ls st H) cl 201 2 8 H st) ∧
  (∀ ls st H, aGo cl none cd_201 0 129 ls st H = aIret 0 st H) :=
  ⟨fun _ _ _ => (aGo_s rfl).trans rfl, fun _ _ _ => (aGo_s rfl).trans rfl, fun _ _ _ => (aGo_s rfl).trans rfl, fun _ _ _ => (aGo_s rfl).trans rfl, fun _ _ _ => (aGo_s rfl).trans rfl, fun _ _ _ => (aGo_s rfl).trans rfl, fun _ _ _ => (aGo_s rfl).trans rfl, fun _ _ _ => (aGo_s rfl).trans rfl, fun _ _ _ => (aGo_s rfl).trans rfl, fun _ _ _ => (aGo_s rfl).trans rfl, fun _ _ _ => (aGo_s rfl).trans rfl, fun _ _ _ => (aGo_s rfl).trans rfl, fun _ _ _ => (aGo_s rfl).trans rfl, fun _ _ _ => (aGo_s rfl).trans rfl, fun _ _ _ => (aGo_s rfl).trans rfl, fun _ _ _ => (aGo_s rfl).trans rfl, fun _ _ _ => (aGo_s rfl).trans rfl, fun _ _ _ => (aGo_s rfl).trans rfl, fun _ _ _ => (aGo_s rfl).trans rfl, fun _ _ _ => (aGo_s rfl).trans rfl, fun _ _ _ => (aGo_s rfl).trans rfl, fun _ _ _ => (aGo_s rfl).trans rfl, fun _ _ _ => (aGo_s rfl).trans rfl, fun _ _ _ => (aGo_s rfl).trans rfl, fun _ _ _ => (aGo_s rfl).trans rfl, fun _ _ _ => (aGo_s rfl).trans rfl, fun _ _ _ => (aGo_s rfl).trans rfl, fun _ _ _ => (aGo_s rfl).trans rfl, fun _ _ _ => (aGo_s rfl).trans rfl, fun _ _ _ => (aGo_s rfl).trans rfl, fun _ _ _ => (aGo_s rfl).trans rfl, fun _ _ _ => (aGo_s rfl).trans rfl, fun _ _ _ => (aGo_s rfl).trans rfl, fun _ _ _ => (aGo_s rfl).trans rfl, fun _ _ _ => (aGo_s rfl).trans rfl, fun _ _ _ => (aGo_s rfl).trans rfl, fun _ _ _ => (aGo_s rfl).trans rfl, fun _ _ _ => (aGo_s rfl).trans rfl, fun _ _ _ => (aGo_s rfl).trans rfl, fun _ _ _ => (aGo_s rfl).trans rfl, fun _ _ _ => (aGo_s rfl).trans rfl, fun _ _ _ => (aGo_s rfl).trans rfl, fun _ _ _ => (aGo_s rfl).trans rfl, fun _ _ _ => (aGo_s rfl).trans rfl, fun _ _ _ => (aGo_s rfl).trans rfl, fun _ _ _ => (aGo_s rfl).trans rfl, fun _ _ _ => (aGo_s rfl).trans rfl, fun _ _ _ => (aGo_s rfl).trans rfl, fun _ _ _ => (aGo_s rfl).trans rfl, fun _ _ _ => (aGo_s rfl).trans rfl, fun _ _ _ => (aGo_s rfl).trans rfl, fun _ _ _ => (aGo_s rfl).trans rfl, fun _ _ _ => (aGo_s rfl).trans rfl⟩
theorem e_201 {d : Nat} {x0 : Nat} {x1 : Int32} {x2 : Int32} {H : aH} : aCall aMt (d + 1) 201 [.ref x0, .int x1, .int x2] H = aGo (aCall aMt d) none cd_201 0 0 [some (.ref x0), some (.int x1), some (.int x2)] [] H := (c_0 rfl ⟨rfl, Nat.le_of_ble_eq_true rfl, Nat.le_of_ble_eq_true rfl⟩).trans rfl
theorem s_202 {cl : Nat → List Value → aH → aRs} : (∀ ls st H, aGo cl none cd_202 0 0 ls st H = aILoad (fun st => aGo cl none cd_202 0 1 ls st H) ls 1 st) ∧
  (∀ ls st H, aGo cl none cd_202 0 1 ls st H = aSwS (fun p st => aGo cl none cd_202 0 p ls st H) [(0, 36), (1, 96), (2, 96), (3, 57), (4, 75)] 96 st) ∧
  (∀ ls st H, aGo cl none cd_202 0 36 ls st H = aRLoad (fun st => aGo cl none cd_202 0 37 ls st H) ls 0 st) ∧
  (∀ ls st H, aGo cl none cd_202 0 37 ls st H = aGo cl none cd_202 0 39 ls (.int 12 :: st) H) ∧
  (∀ ls st H, aGo cl none cd_202 0 39 ls st H = aCallV (fun st H => aGo cl none cd_202 0 42 ls st H) cl 196 1 8 H st) ∧
  (∀ ls st H, aGo cl none cd_202 0 42 ls st H = aRLoad (fun st => aGo cl none cd_202 0 43 ls st H) ls 0 st) ∧
  (∀ ls st H, aGo cl none cd_202 0 43 ls st H = aRLoad (fun st => aGo cl none cd_202 0 44 ls st H) ls 0 st) ∧
  (∀ ls st H, aGo cl none cd_202 0 44 ls st H = aCallV (fun st H => aGo cl none cd_202 0 47 ls st H) cl 198 0 8 H st) ∧
  (∀ ls st H, aGo cl none cd_202 0 47 ls st H = aILoad (fun st => aGo cl none cd_202 0 48 ls st H) ls 2 st) ∧
  (∀ ls st H, aGo cl none cd_202 0 48 ls st H = aCallV (fun st H => aGo cl none cd_202 0 51 ls st H) cl 201 2 8 H st) ∧
  (∀ ls st H, aGo cl none cd_202 0 51 ls st H = aRLoad (fun st => aGo cl none cd_202 0 52 ls st H) ls 0 st) ∧
  (∀ ls st H, aGo cl none cd_202 0 52 ls st H = aCallV (fun st H => aGo cl none cd_202 0 55 ls st H) cl 199 0 8 H st) ∧
  (∀ ls st H, aGo cl none cd_202 0 55 ls st H = aBin (fun st => aGo cl none cd_202 0 56 ls st H) (fun x y => x - y) st) ∧
  (∀ ls st H, aGo cl none cd_202 0 56 ls st H = aIret 0 st H) ∧
  (∀ ls st H, aGo cl none cd_202 0 57 ls st H = aRLoad (fun st => aGo cl none cd_202 0 58 ls st H) ls 0 st) ∧
  (∀ ls st H, aGo cl none cd_202 0 58 ls st H = aGo cl none cd_202 0 60 ls (.int 40 :: st) H) ∧
  (∀ ls st H, aGo cl none cd_202 0 60 ls st H = aCallV (fun st H => aGo cl none cd_202 0 63 ls st H) cl 196 1 8 H st) ∧
  (∀ ls st H, aGo cl none cd_202 0 63 ls st H = aRLoad (fun st => aGo cl none cd_202 0 64 ls st H) ls 0 st) ∧
  (∀ ls st H, aGo cl none cd_202 0 64 ls st H = aGo cl none cd_202 0 65 ls (.int 3 :: st) H) ∧
  (∀ ls st H, aGo cl none cd_202 0 65 ls st H = aCallI (fun st H => aGo cl none cd_202 0 68 ls st H) cl 197 1 H st) ∧
  (∀ ls st H, aGo cl none cd_202 0 68 ls st H = aILoad (fun st => aGo cl none cd_202 0 69 ls st H) ls 2 st) ∧
  (∀ ls st H, aGo cl none cd_202 0 69 ls st H = aGo cl none cd_202 0 70 ls (.int 2 :: st) H) ∧
  (∀ ls st H, aGo cl none cd_202 0 70 ls st H = aDiv (fun st => aGo cl none cd_202 0 71 ls st H) st) ∧
  (∀ ls st H, aGo cl none cd_202 0 71 ls st H = aCallV (fun st H => aGo cl none cd_202 0 74 ls st H) cl 202 2 8 H st) ∧
  (∀ ls st H, aGo cl none cd_202 0 74 ls st H = aIret 0 st H) ∧
  (∀ ls st H, aGo cl none cd_202 0 75 ls st H = aRLoad (fun st => aGo cl none cd_202 0 76 ls st H) ls 0 st) ∧
  (∀ ls st H, aGo cl none cd_202 0 76 ls st H = aGo cl none cd_202 0 78 ls (.int 51 :: st) H) ∧
  (∀ ls st H, aGo cl none cd_202 0 78 ls st H = aCallV (fun st H => aGo cl none cd_202 0 81 ls st H) cl 196 1 8 H st) ∧
  (∀ ls st H, aGo cl none cd_202 0 81 ls st H = aRLoad (fun st => aGo cl none cd_202 0 82 ls st H) ls 0 st) ∧
  (∀ ls st H, aGo cl none cd_202 0 82 ls st H = aGo cl none cd_202 0 83 ls (.int 4 :: st) H) ∧
  (∀ ls st H, aGo cl none cd_202 0 83 ls st H = aCallI (fun st H => aGo cl none cd_202 0 86 ls st H) cl 197 1 H st) ∧
  (∀ ls st H, aGo cl none cd_202 0 86 ls st H = aILoad (fun st => aGo cl none cd_202 0 87 ls st H) ls 2 st) ∧
  (∀ ls st H, aGo cl none cd_202 0 87 ls st H = aCallV (fun st H => aGo cl none cd_202 0 90 ls st H) cl 202 2 8 H st) ∧
  (∀ ls st H, aGo cl none cd_202 0 90 ls st H = aRLoad (fun st => aGo cl none cd_202 0 91 ls st H) ls 0 st) ∧
  (∀ ls st H, aGo cl none cd_202 0 91 ls st H = aGet (fun st => aGo cl none cd_202 0 94 ls st H) 8 16 H st) ∧
  (∀ ls st H, aGo cl none cd_202 0 94 ls st H = aBin (fun st => aGo cl none cd_202 0 95 ls st H) (fun x y => x ^^^ y) st) ∧
  (∀ ls st H, aGo cl none cd_202 0 95 ls st H = aIret 0 st H) ∧
  (∀ ls st H, aGo cl none cd_202 0 96 ls st H = aRLoad (fun st => aGo cl none cd_202 0 97 ls st H) ls 0 st) ∧
  (∀ ls st H, aGo cl none cd_202 0 97 ls st H = aILoad (fun st => aGo cl none cd_202 0 98 ls st H) ls 1 st) ∧
  (∀ ls st H, aGo cl none cd_202 0 98 ls st H = aCallI (fun st H => aGo cl none cd_202 0 101 ls st H) cl 197 1 H st) ∧
  (∀ ls st H, aGo cl none cd_202 0 101 ls st H = aILoad (fun st => aGo cl none cd_202 0 102 ls st H) ls 2 st) ∧
  (∀ ls st H, aGo cl none cd_202 0 102 ls st H = aCallV (fun st H => aGo cl none cd_202 0 105 ls st H) cl 202 2 8 H st) ∧
  (∀ ls st H, aGo cl none cd_202 0 105 ls st H = aIret 0 st H) :=
  ⟨fun _ _ _ => (aGo_s rfl).trans rfl, fun _ _ _ => (aGo_s rfl).trans rfl, fun _ _ _ => (aGo_s rfl).trans rfl, fun _ _ _ => (aGo_s rfl).trans rfl, fun _ _ _ => (aGo_s rfl).trans rfl, fun _ _ _ => (aGo_s rfl).trans rfl, fun _ _ _ => (aGo_s rfl).trans rfl, fun _ _ _ => (aGo_s rfl).trans rfl, fun _ _ _ => (aGo_s rfl).trans rfl, fun _ _ _ => (aGo_s rfl).trans rfl, fun _ _ _ => (aGo_s rfl).trans rfl, fun _ _ _ => (aGo_s rfl).trans rfl, fun _ _ _ => (aGo_s rfl).trans rfl, fun _ _ _ => (aGo_s rfl).trans rfl, fun _ _ _ => (aGo_s rfl).trans rfl, fun _ _ _ => (aGo_s rfl).trans rfl, fun _ _ _ => (aGo_s rfl).trans rfl, fun _ _ _ => (aGo_s rfl).trans rfl, fun _ _ _ => (aGo_s rfl).trans rfl, fun _ _ _ => (aGo_s rfl).trans rfl, fun _ _ _ => (aGo_s rfl).trans rfl, fun _ _ _ => (aGo_s rfl).trans rfl, fun _ _ _ => (aGo_s rfl).trans rfl, fun _ _ _ => (aGo_s rfl).trans rfl, fun _ _ _ => (aGo_s rfl).trans rfl, fun _ _ _ => (aGo_s rfl).trans rfl, fun _ _ _ => (aGo_s rfl).trans rfl, fun _ _ _ => (aGo_s rfl).trans rfl, fun _ _ _ => (aGo_s rfl).trans rfl, fun _ _ _ => (aGo_s rfl).trans rfl, fun _ _ _ => (aGo_s rfl).trans rfl, fun _ _ _ => (aGo_s rfl).trans rfl, fun _ _ _ => (aGo_s rfl).trans rfl, fun _ _ _ => (aGo_s rfl).trans rfl, fun _ _ _ => (aGo_s rfl).trans rfl, fun _ _ _ => (aGo_s rfl).trans rfl, fun _ _ _ => (aGo_s rfl).trans rfl, fun _ _ _ => (aGo_s rfl).trans rfl, fun _ _ _ => (aGo_s rfl).trans rfl, fun _ _ _ => (aGo_s rfl).trans rfl, fun _ _ _ => (aGo_s rfl).trans rfl, fun _ _ _ => (aGo_s rfl).trans rfl, fun _ _ _ => (aGo_s rfl).trans rfl⟩
theorem e_202 {d : Nat} {x0 : Nat} {x1 : Int32} {x2 : Int32} {H : aH} : aCall aMt (d + 1) 202 [.ref x0, .int x1, .int x2] H = aGo (aCall aMt d) none cd_202 0 0 [some (.ref x0), some (.int x1), some (.int x2)] [] H := (c_0 rfl ⟨rfl, Nat.le_of_ble_eq_true rfl, Nat.le_of_ble_eq_true rfl⟩).trans rfl
theorem s_203 {cl : Nat → List Value → aH → aRs} : (∀ ls st H, aGo cl none cd_203 0 0 ls st H = aILoad (fun st => aGo cl none cd_203 0 1 ls st H) ls 1 st) ∧
  (∀ ls st H, aGo cl none cd_203 0 1 ls st H = aSwS (fun p st => aGo cl none cd_203 0 p ls st H) [(0, 28), (1, 79)] 120 st) ∧
  (∀ ls st H, aGo cl none cd_203 0 28 ls st H = aRLoad (fun st => aGo cl none cd_203 0 29 ls st H) ls 0 st) ∧
  (∀ ls st H, aGo cl none cd_203 0 29 ls st H = aGo cl none cd_203 0 31 ls (.int 13 :: st) H) ∧
  (∀ ls st H, aGo cl none cd_203 0 31 ls st H = aCallV (fun st H => aGo cl none cd_203 0 34 ls st H) cl 196 1 8 H st) ∧
  (∀ ls st H, aGo cl none cd_203 0 34 ls st H = aRLoad (fun st => aGo cl none cd_203 0 35 ls st H) ls 0 st) ∧
  (∀ ls st H, aGo cl none cd_203 0 35 ls st H = aCallV (fun st H => aGo cl none cd_203 0 38 ls st H) cl 199 0 8 H st) ∧
  (∀ ls st H, aGo cl none cd_203 0 38 ls st H = aRLoad (fun st => aGo cl none cd_203 0 39 ls st H) ls 0 st) ∧
  (∀ ls st H, aGo cl none cd_203 0 39 ls st H = aGet (fun st => aGo cl none cd_203 0 42 ls st H) 8 16 H st) ∧
  (∀ ls st H, aGo cl none cd_203 0 42 ls st H = aBin (fun st => aGo cl none cd_203 0 43 ls st H) (fun x y => x - y) st) ∧
  (∀ ls st H, aGo cl none cd_203 0 43 ls st H = aIStore (fun ls st => aGo cl none cd_203 0 44 ls st H) ls 3 st) ∧
  (∀ ls st H, aGo cl none cd_203 0 44 ls st H = aRLoad (fun st => aGo cl none cd_203 0 45 ls st H) ls 0 st) ∧
  (∀ ls st H, aGo cl none cd_203 0 45 ls st H = aILoad (fun st => aGo cl none cd_203 0 46 ls st H) ls 3 st) ∧
  (∀ ls st H, aGo cl none cd_203 0 46 ls st H = aIf (fun p st => aGo cl none cd_203 0 p ls st H) .ne 53 49 st) ∧
  (∀ ls st H, aGo cl none cd_203 0 49 ls st H = aGo cl none cd_203 0 50 ls (.int 1 :: st) H) ∧
  (∀ ls st H, aGo cl none cd_203 0 50 ls st H = aGo cl none cd_203 0 54 ls st H) ∧
  (∀ ls st H, aGo cl none cd_203 0 53 ls st H = aGo cl none cd_203 0 54 ls (.int 0 :: st) H) ∧
  (∀ ls st H, aGo cl none cd_203 0 54 ls st H = aPut (fun st H => aGo cl none cd_203 0 57 ls st H) 8 17 H st) ∧
  (∀ ls st H, aGo cl none cd_203 0 57 ls st H = aILoad (fun st => aGo cl none cd_203 0 58 ls st H) ls 3 st) ∧
  (∀ ls st H, aGo cl none cd_203 0 58 ls st H = aIf (fun p st => aGo cl none cd_203 0 p ls st H) .ne 65 61 st) ∧
  (∀ ls st H, aGo cl none cd_203 0 61 ls st H = aGo cl none cd_203 0 62 ls (.int 0 :: st) H) ∧
  (∀ ls st H, aGo cl none cd_203 0 62 ls st H = aGo cl none cd_203 0 78 ls st H) ∧
  (∀ ls st H, aGo cl none cd_203 0 65 ls st H = aILoad (fun st => aGo cl none cd_203 0 66 ls st H) ls 3 st) ∧
  (∀ ls st H, aGo cl none cd_203 0 66 ls st H = aGo cl none cd_203 0 67 ls (.int (-1) :: st) H) ∧
  (∀ ls st H, aGo cl none cd_203 0 67 ls st H = aIc (fun p st => aGo cl none cd_203 0 p ls st H) .ne 75 70 st) ∧
  (∀ ls st H, aGo cl none cd_203 0 70 ls st H = aILoad (fun st => aGo cl none cd_203 0 71 ls st H) ls 2 st) ∧
  (∀ ls st H, aGo cl none cd_203 0 71 ls st H = aUn (fun st => aGo cl none cd_203 0 72 ls st H) (fun x => -x) st) ∧
  (∀ ls st H, aGo cl none cd_203 0 72 ls st H = aGo cl none cd_203 0 78 ls st H) ∧
  (∀ ls st H, aGo cl none cd_203 0 75 ls st H = aILoad (fun st => aGo cl none cd_203 0 76 ls st H) ls 2 st) ∧
  (∀ ls st H, aGo cl none cd_203 0 76 ls st H = aILoad (fun st => aGo cl none cd_203 0 77 ls st H) ls 3 st) ∧
  (∀ ls st H, aGo cl none cd_203 0 77 ls st H = aDiv (fun st => aGo cl none cd_203 0 78 ls st H) st) ∧
  (∀ ls st H, aGo cl none cd_203 0 78 ls st H = aIret 0 st H) ∧
  (∀ ls st H, aGo cl none cd_203 0 79 ls st H = aRLoad (fun st => aGo cl none cd_203 0 80 ls st H) ls 0 st) ∧
  (∀ ls st H, aGo cl none cd_203 0 80 ls st H = aGo cl none cd_203 0 82 ls (.int 21 :: st) H) ∧
  (∀ ls st H, aGo cl none cd_203 0 82 ls st H = aCallV (fun st H => aGo cl none cd_203 0 85 ls st H) cl 196 1 8 H st) ∧
  (∀ ls st H, aGo cl none cd_203 0 85 ls st H = aRLoad (fun st => aGo cl none cd_203 0 86 ls st H) ls 0 st) ∧
  (∀ ls st H, aGo cl none cd_203 0 86 ls st H = aGo cl none cd_203 0 87 ls (.int 1 :: st) H) ∧
  (∀ ls st H, aGo cl none cd_203 0 87 ls st H = aCallI (fun st H => aGo cl none cd_203 0 90 ls st H) cl 197 1 H st) ∧
  (∀ ls st H, aGo cl none cd_203 0 90 ls st H = aILoad (fun st => aGo cl none cd_203 0 91 ls st H) ls 2 st) ∧
  (∀ ls st H, aGo cl none cd_203 0 91 ls st H = aCallV (fun st H => aGo cl none cd_203 0 94 ls st H) cl 203 2 8 H st) ∧
  (∀ ls st H, aGo cl none cd_203 0 94 ls st H = aIStore (fun ls st => aGo cl none cd_203 0 96 ls st H) ls 4 st) ∧
  (∀ ls st H, aGo cl none cd_203 0 96 ls st H = aRLoad (fun st => aGo cl none cd_203 0 97 ls st H) ls 0 st) ∧
  (∀ ls st H, aGo cl none cd_203 0 97 ls st H = aGet (fun st => aGo cl none cd_203 0 100 ls st H) 8 17 H st) ∧
  (∀ ls st H, aGo cl none cd_203 0 100 ls st H = aIf (fun p st => aGo cl none cd_203 0 p ls st H) .eq 107 103 st) ∧
  (∀ ls st H, aGo cl none cd_203 0 103 ls st H = aGo cl none cd_203 0 104 ls (.int 0 :: st) H) ∧
  (∀ ls st H, aGo cl none cd_203 0 104 ls st H = aGo cl none cd_203 0 119 ls st H) ∧
  (∀ ls st H, aGo cl none cd_203 0 107 ls st H = aILoad (fun st => aGo cl none cd_203 0 109 ls st H) ls 4 st) ∧
  (∀ ls st H, aGo cl none cd_203 0 109 ls st H = aRLoad (fun st => aGo cl none cd_203 0 110 ls st H) ls 0 st) ∧
  (∀ ls st H, aGo cl none cd_203 0 110 ls st H = aRLoad (fun st => aGo cl none cd_203 0 111 ls st H) ls 0 st) ∧
  (∀ ls st H, aGo cl none cd_203 0 111 ls st H = aCallV (fun st H => aGo cl none cd_203 0 114 ls st H) cl 198 0 8 H st) ∧
  (∀ ls st H, aGo cl none cd_203 0 114 ls st H = aGo cl none cd_203 0 115 ls (.int 1 :: st) H) ∧
  (∀ ls st H, aGo cl none cd_203 0 115 ls st H = aCallV (fun st H => aGo cl none cd_203 0 118 ls st H) cl 201 2 8 H st) ∧
  (∀ ls st H, aGo cl none cd_203 0 118 ls st H = aBin (fun st => aGo cl none cd_203 0 119 ls st H) (fun x y => x + y) st) ∧
  (∀ ls st H, aGo cl none cd_203 0 119 ls st H = aIret 0 st H) ∧
  (∀ ls st H, aGo cl none cd_203 0 120 ls st H = aRLoad (fun st => aGo cl none cd_203 0 121 ls st H) ls 0 st) ∧
  (∀ ls st H, aGo cl none cd_203 0 121 ls st H = aILoad (fun st => aGo cl none cd_203 0 122 ls st H) ls 1 st) ∧
  (∀ ls st H, aGo cl none cd_203 0 122 ls st H = aCallI (fun st H => aGo cl none cd_203 0 125 ls st H) cl 197 1 H st) ∧
  (∀ ls st H, aGo cl none cd_203 0 125 ls st H = aILoad (fun st => aGo cl none cd_203 0 126 ls st H) ls 2 st) ∧
  (∀ ls st H, aGo cl none cd_203 0 126 ls st H = aCallV (fun st H => aGo cl none cd_203 0 129 ls st H) cl 203 2 8 H st) ∧
  (∀ ls st H, aGo cl none cd_203 0 129 ls st H = aIret 0 st H) :=
  ⟨fun _ _ _ => (aGo_s rfl).trans rfl, fun _ _ _ => (aGo_s rfl).trans rfl, fun _ _ _ => (aGo_s rfl).trans rfl, fun _ _ _ => (aGo_s rfl).trans rfl, fun _ _ _ => (aGo_s rfl).trans rfl, fun _ _ _ => (aGo_s rfl).trans rfl, fun _ _ _ => (aGo_s rfl).trans rfl, fun _ _ _ => (aGo_s rfl).trans rfl, fun _ _ _ => (aGo_s rfl).trans rfl, fun _ _ _ => (aGo_s rfl).trans rfl, fun _ _ _ => (aGo_s rfl).trans rfl, fun _ _ _ => (aGo_s rfl).trans rfl, fun _ _ _ => (aGo_s rfl).trans rfl, fun _ _ _ => (aGo_s rfl).trans rfl, fun _ _ _ => (aGo_s rfl).trans rfl, fun _ _ _ => (aGo_s rfl).trans rfl, fun _ _ _ => (aGo_s rfl).trans rfl, fun _ _ _ => (aGo_s rfl).trans rfl, fun _ _ _ => (aGo_s rfl).trans rfl, fun _ _ _ => (aGo_s rfl).trans rfl, fun _ _ _ => (aGo_s rfl).trans rfl, fun _ _ _ => (aGo_s rfl).trans rfl, fun _ _ _ => (aGo_s rfl).trans rfl, fun _ _ _ => (aGo_s rfl).trans rfl, fun _ _ _ => (aGo_s rfl).trans rfl, fun _ _ _ => (aGo_s rfl).trans rfl, fun _ _ _ => (aGo_s rfl).trans rfl, fun _ _ _ => (aGo_s rfl).trans rfl, fun _ _ _ => (aGo_s rfl).trans rfl, fun _ _ _ => (aGo_s rfl).trans rfl, fun _ _ _ => (aGo_s rfl).trans rfl, fun _ _ _ => (aGo_s rfl).trans rfl, fun _ _ _ => (aGo_s rfl).trans rfl, fun _ _ _ => (aGo_s rfl).trans rfl, fun _ _ _ => (aGo_s rfl).trans rfl, fun _ _ _ => (aGo_s rfl).trans rfl, fun _ _ _ => (aGo_s rfl).trans rfl, fun _ _ _ => (aGo_s rfl).trans rfl, fun _ _ _ => (aGo_s rfl).trans rfl, fun _ _ _ => (aGo_s rfl).trans rfl, fun _ _ _ => (aGo_s rfl).trans rfl, fun _ _ _ => (aGo_s rfl).trans rfl, fun _ _ _ => (aGo_s rfl).trans rfl, fun _ _ _ => (aGo_s rfl).trans rfl, fun _ _ _ => (aGo_s rfl).trans rfl, fun _ _ _ => (aGo_s rfl).trans rfl, fun _ _ _ => (aGo_s rfl).trans rfl, fun _ _ _ => (aGo_s rfl).trans rfl, fun _ _ _ => (aGo_s rfl).trans rfl, fun _ _ _ => (aGo_s rfl).trans rfl, fun _ _ _ => (aGo_s rfl).trans rfl, fun _ _ _ => (aGo_s rfl).trans rfl, fun _ _ _ => (aGo_s rfl).trans rfl, fun _ _ _ => (aGo_s rfl).trans rfl, fun _ _ _ => (aGo_s rfl).trans rfl, fun _ _ _ => (aGo_s rfl).trans rfl, fun _ _ _ => (aGo_s rfl).trans rfl, fun _ _ _ => (aGo_s rfl).trans rfl, fun _ _ _ => (aGo_s rfl).trans rfl, fun _ _ _ => (aGo_s rfl).trans rfl⟩
theorem e_203 {d : Nat} {x0 : Nat} {x1 : Int32} {x2 : Int32} {H : aH} : aCall aMt (d + 1) 203 [.ref x0, .int x1, .int x2] H = aGo (aCall aMt d) none cd_203 0 0 [some (.ref x0), some (.int x1), some (.int x2), none, none] [] H := (c_0 rfl ⟨rfl, Nat.le_of_ble_eq_true rfl, Nat.le_of_ble_eq_true rfl⟩).trans rfl
theorem s_204 {cl : Nat → List Value → aH → aRs} : (∀ ls st H, aGo cl none cd_204 0 0 ls st H = aRLoad (fun st => aGo cl none cd_204 0 1 ls st H) ls 0 st) ∧
  (∀ ls st H, aGo cl none cd_204 0 1 ls st H = aILoad (fun st => aGo cl none cd_204 0 2 ls st H) ls 1 st) ∧
  (∀ ls st H, aGo cl none cd_204 0 2 ls st H = aCallV (fun st H => aGo cl none cd_204 0 5 ls st H) cl 122 1 8 H st) ∧
  (∀ ls st H, aGo cl none cd_204 0 5 ls st H = aIf (fun p st => aGo cl none cd_204 0 p ls st H) .eq 17 8 st) ∧
  (∀ ls st H, aGo cl none cd_204 0 8 ls st H = aILoad (fun st => aGo cl none cd_204 0 9 ls st H) ls 2 st) ∧
  (∀ ls st H, aGo cl none cd_204 0 9 ls st H = aGo cl none cd_204 0 10 ls (.int 0 :: st) H) ∧
  (∀ ls st H, aGo cl none cd_204 0 10 ls st H = aGo cl none cd_204 0 11 ls (.int 3 :: st) H) ∧
  (∀ ls st H, aGo cl none cd_204 0 11 ls st H = aCallI (fun st H => aGo cl none cd_204 0 14 ls st H) cl 117 3 H st) ∧
  (∀ ls st H, aGo cl none cd_204 0 14 ls st H = aIf (fun p st => aGo cl none cd_204 0 p ls st H) .ne 23 17 st) ∧
  (∀ ls st H, aGo cl none cd_204 0 17 ls st H = aRLoad (fun st => aGo cl none cd_204 0 18 ls st H) ls 0 st) ∧
  (∀ ls st H, aGo cl none cd_204 0 18 ls st H = aGo cl none cd_204 0 19 ls (.int 1 :: st) H) ∧
  (∀ ls st H, aGo cl none cd_204 0 19 ls st H = aCallV (fun st H => aGo cl none cd_204 0 22 ls st H) cl 116 1 8 H st) ∧
  (∀ ls st H, aGo cl none cd_204 0 22 ls st H = aIret 0 st H) ∧
  (∀ ls st H, aGo cl none cd_204 0 23 ls st H = aRLoad (fun st => aGo cl none cd_204 0 24 ls st H) ls 0 st) ∧
  (∀ ls st H, aGo cl none cd_204 0 24 ls st H = aGo cl none cd_204 0 25 ls (.int 0 :: st) H) ∧
  (∀ ls st H, aGo cl none cd_204 0 25 ls st H = aPut (fun st H => aGo cl none cd_204 0 28 ls st H) 8 14 H st) ∧
  (∀ ls st H, aGo cl none cd_204 0 28 ls st H = aRLoad (fun st => aGo cl none cd_204 0 29 ls st H) ls 0 st) ∧
  (∀ ls st H, aGo cl none cd_204 0 29 ls st H = aILoad (fun st => aGo cl none cd_204 0 30 ls st H) ls 1 st) ∧
  (∀ ls st H, aGo cl none cd_204 0 30 ls st H = aPut (fun st H => aGo cl none cd_204 0 33 ls st H) 8 16 H st) ∧
  (∀ ls st H, aGo cl none cd_204 0 33 ls st H = aRLoad (fun st => aGo cl none cd_204 0 34 ls st H) ls 0 st) ∧
  (∀ ls st H, aGo cl none cd_204 0 34 ls st H = aGo cl none cd_204 0 35 ls (.int 0 :: st) H) ∧
  (∀ ls st H, aGo cl none cd_204 0 35 ls st H = aPut (fun st H => aGo cl none cd_204 0 38 ls st H) 8 17 H st) ∧
  (∀ ls st H, aGo cl none cd_204 0 38 ls st H = aRLoad (fun st => aGo cl none cd_204 0 39 ls st H) ls 0 st) ∧
  (∀ ls st H, aGo cl none cd_204 0 39 ls st H = aCallV (fun st H => aGo cl none cd_204 0 42 ls st H) cl 198 0 8 H st) ∧
  (∀ ls st H, aGo cl none cd_204 0 42 ls st H = aIStore (fun ls st => aGo cl none cd_204 0 44 ls st H) ls 4 st) ∧
  (∀ ls st H, aGo cl none cd_204 0 44 ls st H = aILoad (fun st => aGo cl none cd_204 0 45 ls st H) ls 2 st) ∧
  (∀ ls st H, aGo cl none cd_204 0 45 ls st H = aIf (fun p st => aGo cl none cd_204 0 p ls st H) .ne 58 48 st) ∧
  (∀ ls st H, aGo cl none cd_204 0 48 ls st H = aRLoad (fun st => aGo cl none cd_204 0 49 ls st H) ls 0 st) ∧
  (∀ ls st H, aGo cl none cd_204 0 49 ls st H = aILoad (fun st => aGo cl none cd_204 0 51 ls st H) ls 4 st) ∧
  (∀ ls st H, aGo cl none cd_204 0 51 ls st H = aILoad (fun st => aGo cl none cd_204 0 52 ls st H) ls 3 st) ∧
  (∀ ls st H, aGo cl none cd_204 0 52 ls st H = aCallV (fun st H => aGo cl none cd_204 0 55 ls st H) cl 200 2 8 H st) ∧
  (∀ ls st H, aGo cl none cd_204 0 55 ls st H = aGo cl none cd_204 0 95 ls st H) ∧
  (∀ ls st H, aGo cl none cd_204 0 58 ls st H = aILoad (fun st => aGo cl none cd_204 0 59 ls st H) ls 2 st) ∧
  (∀ ls st H, aGo cl none cd_204 0 59 ls st H = aGo cl none cd_204 0 60 ls (.int 1 :: st) H) ∧
  (∀ ls st H, aGo cl none cd_204 0 60 ls st H = aIc (fun p st => aGo cl none cd_204 0 p ls st H) .ne 73 63 st) ∧
  (∀ ls st H, aGo cl none cd_204 0 63 ls st H = aRLoad (fun st => aGo cl none cd_204 0 64 ls st H) ls 0 st) ∧
  (∀ ls st H, aGo cl none cd_204 0 64 ls st H = aILoad (fun st => aGo cl none cd_204 0 66 ls st H) ls 4 st) ∧
  (∀ ls st H, aGo cl none cd_204 0 66 ls st H = aILoad (fun st => aGo cl none cd_204 0 67 ls st H) ls 3 st) ∧
  (∀ ls st H, aGo cl none cd_204 0 67 ls st H = aCallV (fun st H => aGo cl none cd_204 0 70 ls st H) cl 201 2 8 H st) ∧
  (∀ ls st H, aGo cl none cd_204 0 70 ls st H = aGo cl none cd_204 0 95 ls st H) ∧
  (∀ ls st H, aGo cl none cd_204 0 73 ls st H = aILoad (fun st => aGo cl none cd_204 0 74 ls st H) ls 2 st) ∧
  (∀ ls st H, aGo cl none cd_204 0 74 ls st H = aGo cl none cd_204 0 75 ls (.int 2 :: st) H) ∧
  (∀ ls st H, aGo cl none cd_204 0 75 ls st H = aIc (fun p st => aGo cl none cd_204 0 p ls st H) .ne 88 78 st) ∧
  (∀ ls st H, aGo cl none cd_204 0 78 ls st H = aRLoad (fun st => aGo cl none cd_204 0 79 ls st H) ls 0 st) ∧
  (∀ ls st H, aGo cl none cd_204 0 79 ls st H = aILoad (fun st => aGo cl none cd_204 0 81 ls st H) ls 4 st) ∧
  (∀ ls st H, aGo cl none cd_204 0 81 ls st H = aILoad (fun st => aGo cl none cd_204 0 82 ls st H) ls 3 st) ∧
  (∀ ls st H, aGo cl none cd_204 0 82 ls st H = aCallV (fun st H => aGo cl none cd_204 0 85 ls st H) cl 202 2 8 H st) ∧
  (∀ ls st H, aGo cl none cd_204 0 85 ls st H = aGo cl none cd_204 0 95 ls st H) ∧
  (∀ ls st H, aGo cl none cd_204 0 88 ls st H = aRLoad (fun st => aGo cl none cd_204 0 89 ls st H) ls 0 st) ∧
  (∀ ls st H, aGo cl none cd_204 0 89 ls st H = aILoad (fun st => aGo cl none cd_204 0 91 ls st H) ls 4 st) ∧
  (∀ ls st H, aGo cl none cd_204 0 91 ls st H = aILoad (fun st => aGo cl none cd_204 0 92 ls st H) ls 3 st) ∧
  (∀ ls st H, aGo cl none cd_204 0 92 ls st H = aCallV (fun st H => aGo cl none cd_204 0 95 ls st H) cl 203 2 8 H st) ∧
  (∀ ls st H, aGo cl none cd_204 0 95 ls st H = aIStore (fun ls st => aGo cl none cd_204 0 97 ls st H) ls 5 st) ∧
  (∀ ls st H, aGo cl none cd_204 0 97 ls st H = aRLoad (fun st => aGo cl none cd_204 0 98 ls st H) ls 0 st) ∧
  (∀ ls st H, aGo cl none cd_204 0 98 ls st H = aGet (fun st => aGo cl none cd_204 0 101 ls st H) 8 17 H st) ∧
  (∀ ls st H, aGo cl none cd_204 0 101 ls st H = aIf (fun p st => aGo cl none cd_204 0 p ls st H) .eq 113 104 st) ∧
  (∀ ls st H, aGo cl none cd_204 0 104 ls st H = aRLoad (fun st => aGo cl none cd_204 0 105 ls st H) ls 0 st) ∧
  (∀ ls st H, aGo cl none cd_204 0 105 ls st H = aGo cl none cd_204 0 107 ls (.int 6 :: st) H) ∧
  (∀ ls st H, aGo cl none cd_204 0 107 ls st H = aCallV (fun st H => aGo cl none cd_204 0 110 ls st H) cl 116 1 8 H st) ∧
  (∀ ls st H, aGo cl none cd_204 0 110 ls st H = aGo cl none cd_204 0 115 ls st H) ∧
  (∀ ls st H, aGo cl none cd_204 0 113 ls st H = aILoad (fun st => aGo cl none cd_204 0 115 ls st H) ls 5 st) ∧
  (∀ ls st H, aGo cl none cd_204 0 115 ls st H = aIret 0 st H) :=
  ⟨fun _ _ _ => (aGo_s rfl).trans rfl, fun _ _ _ => (aGo_s rfl).trans rfl, fun _ _ _ => (aGo_s rfl).trans rfl, fun _ _ _ => (aGo_s rfl).trans rfl, fun _ _ _ => (aGo_s rfl).trans rfl, fun _ _ _ => (aGo_s rfl).trans rfl, fun _ _ _ => (aGo_s rfl).trans rfl, fun _ _ _ => (aGo_s rfl).trans rfl, fun _ _ _ => (aGo_s rfl).trans rfl, fun _ _ _ => (aGo_s rfl).trans rfl, fun _ _ _ => (aGo_s rfl).trans rfl, fun _ _ _ => (aGo_s rfl).trans rfl, fun _ _ _ => (aGo_s rfl).trans rfl, fun _ _ _ => (aGo_s rfl).trans rfl, fun _ _ _ => (aGo_s rfl).trans rfl, fun _ _ _ => (aGo_s rfl).trans rfl, fun _ _ _ => (aGo_s rfl).trans rfl, fun _ _ _ => (aGo_s rfl).trans rfl, fun _ _ _ => (aGo_s rfl).trans rfl, fun _ _ _ => (aGo_s rfl).trans rfl, fun _ _ _ => (aGo_s rfl).trans rfl, fun _ _ _ => (aGo_s rfl).trans rfl, fun _ _ _ => (aGo_s rfl).trans rfl, fun _ _ _ => (aGo_s rfl).trans rfl, fun _ _ _ => (aGo_s rfl).trans rfl, fun _ _ _ => (aGo_s rfl).trans rfl, fun _ _ _ => (aGo_s rfl).trans rfl, fun _ _ _ => (aGo_s rfl).trans rfl, fun _ _ _ => (aGo_s rfl).trans rfl, fun _ _ _ => (aGo_s rfl).trans rfl, fun _ _ _ => (aGo_s rfl).trans rfl, fun _ _ _ => (aGo_s rfl).trans rfl, fun _ _ _ => (aGo_s rfl).trans rfl, fun _ _ _ => (aGo_s rfl).trans rfl, fun _ _ _ => (aGo_s rfl).trans rfl, fun _ _ _ => (aGo_s rfl).trans rfl, fun _ _ _ => (aGo_s rfl).trans rfl, fun _ _ _ => (aGo_s rfl).trans rfl, fun _ _ _ => (aGo_s rfl).trans rfl, fun _ _ _ => (aGo_s rfl).trans rfl, fun _ _ _ => (aGo_s rfl).trans rfl, fun _ _ _ => (aGo_s rfl).trans rfl, fun _ _ _ => (aGo_s rfl).trans rfl, fun _ _ _ => (aGo_s rfl).trans rfl, fun _ _ _ => (aGo_s rfl).trans rfl, fun _ _ _ => (aGo_s rfl).trans rfl, fun _ _ _ => (aGo_s rfl).trans rfl, fun _ _ _ => (aGo_s rfl).trans rfl, fun _ _ _ => (aGo_s rfl).trans rfl, fun _ _ _ => (aGo_s rfl).trans rfl, fun _ _ _ => (aGo_s rfl).trans rfl, fun _ _ _ => (aGo_s rfl).trans rfl, fun _ _ _ => (aGo_s rfl).trans rfl, fun _ _ _ => (aGo_s rfl).trans rfl, fun _ _ _ => (aGo_s rfl).trans rfl, fun _ _ _ => (aGo_s rfl).trans rfl, fun _ _ _ => (aGo_s rfl).trans rfl, fun _ _ _ => (aGo_s rfl).trans rfl, fun _ _ _ => (aGo_s rfl).trans rfl, fun _ _ _ => (aGo_s rfl).trans rfl, fun _ _ _ => (aGo_s rfl).trans rfl, fun _ _ _ => (aGo_s rfl).trans rfl⟩
theorem e_204 {d : Nat} {x0 : Nat} {x1 : Int32} {x2 : Int32} {x3 : Int32} {H : aH} : aCall aMt (d + 1) 204 [.ref x0, .int x1, .int x2, .int x3] H = aGo (aCall aMt d) none cd_204 0 0 [some (.ref x0), some (.int x1), some (.int x2), some (.int x3), none, none] [] H := (c_0 rfl ⟨rfl, Nat.le_of_ble_eq_true rfl, Nat.le_of_ble_eq_true rfl⟩).trans rfl
theorem s_205 {cl : Nat → List Value → aH → aRs} : (∀ ls st H, aGo cl none cd_205 0 0 ls st H = aILoad (fun st => aGo cl none cd_205 0 1 ls st H) ls 1 st) ∧
  (∀ ls st H, aGo cl none cd_205 0 1 ls st H = aGo cl none cd_205 0 2 ls (.int 0 :: st) H) ∧
  (∀ ls st H, aGo cl none cd_205 0 2 ls st H = aRLoad (fun st => aGo cl none cd_205 0 3 ls st H) ls 0 st) ∧
  (∀ ls st H, aGo cl none cd_205 0 3 ls st H = aGet (fun st => aGo cl none cd_205 0 6 ls st H) 8 14 H st) ∧
  (∀ ls st H, aGo cl none cd_205 0 6 ls st H = aGo cl none cd_205 0 7 ls (.int 1 :: st) H) ∧
  (∀ ls st H, aGo cl none cd_205 0 7 ls st H = aBin (fun st => aGo cl none cd_205 0 8 ls st H) (fun x y => x - y) st) ∧
  (∀ ls st H, aGo cl none cd_205 0 8 ls st H = aCallI (fun st H => aGo cl none cd_205 0 11 ls st H) cl 117 3 H st) ∧
  (∀ ls st H, aGo cl none cd_205 0 11 ls st H = aIf (fun p st => aGo cl none cd_205 0 p ls st H) .eq 23 14 st) ∧
  (∀ ls st H, aGo cl none cd_205 0 14 ls st H = aRLoad (fun st => aGo cl none cd_205 0 15 ls st H) ls 0 st) ∧
  (∀ ls st H, aGo cl none cd_205 0 15 ls st H = aGet (fun st => aGo cl none cd_205 0 18 ls st H) 8 15 H st) ∧
  (∀ ls st H, aGo cl none cd_205 0 18 ls st H = aILoad (fun st => aGo cl none cd_205 0 19 ls st H) ls 1 st) ∧
  (∀ ls st H, aGo cl none cd_205 0 19 ls st H = aIald (fun st => aGo cl none cd_205 0 20 ls st H) none H st) ∧
  (∀ ls st H, aGo cl none cd_205 0 20 ls st H = aGo cl none cd_205 0 28 ls st H) ∧
  (∀ ls st H, aGo cl none cd_205 0 23 ls st H = aRLoad (fun st => aGo cl none cd_205 0 24 ls st H) ls 0 st) ∧
  (∀ ls st H, aGo cl none cd_205 0 24 ls st H = aGo cl none cd_205 0 25 ls (.int 2 :: st) H) ∧
  (∀ ls st H, aGo cl none cd_205 0 25 ls st H = aCallV (fun st H => aGo cl none cd_205 0 28 ls st H) cl 116 1 8 H st) ∧
  (∀ ls st H, aGo cl none cd_205 0 28 ls st H = aIret 0 st H) :=
  ⟨fun _ _ _ => (aGo_s rfl).trans rfl, fun _ _ _ => (aGo_s rfl).trans rfl, fun _ _ _ => (aGo_s rfl).trans rfl, fun _ _ _ => (aGo_s rfl).trans rfl, fun _ _ _ => (aGo_s rfl).trans rfl, fun _ _ _ => (aGo_s rfl).trans rfl, fun _ _ _ => (aGo_s rfl).trans rfl, fun _ _ _ => (aGo_s rfl).trans rfl, fun _ _ _ => (aGo_s rfl).trans rfl, fun _ _ _ => (aGo_s rfl).trans rfl, fun _ _ _ => (aGo_s rfl).trans rfl, fun _ _ _ => (aGo_s rfl).trans rfl, fun _ _ _ => (aGo_s rfl).trans rfl, fun _ _ _ => (aGo_s rfl).trans rfl, fun _ _ _ => (aGo_s rfl).trans rfl, fun _ _ _ => (aGo_s rfl).trans rfl, fun _ _ _ => (aGo_s rfl).trans rfl⟩
theorem e_205 {d : Nat} {x0 : Nat} {x1 : Int32} {H : aH} : aCall aMt (d + 1) 205 [.ref x0, .int x1] H = aGo (aCall aMt d) none cd_205 0 0 [some (.ref x0), some (.int x1)] [] H := (c_0 rfl ⟨rfl, Nat.le_of_ble_eq_true rfl, Nat.le_of_ble_eq_true rfl⟩).trans rfl
theorem s_206 {cl : Nat → List Value → aH → aRs} : (∀ ls st H, aGo cl none cd_206 1 0 ls st H = aILoad (fun st => aGo cl none cd_206 1 1 ls st H) ls 0 st) ∧
  (∀ ls st H, aGo cl none cd_206 1 1 ls st H = aGo cl none cd_206 1 2 ls (.int 0 :: st) H) ∧
  (∀ ls st H, aGo cl none cd_206 1 2 ls st H = aGo cl none cd_206 1 3 ls (.int 3 :: st) H) ∧
  (∀ ls st H, aGo cl none cd_206 1 3 ls st H = aCallI (fun st H => aGo cl none cd_206 1 6 ls st H) cl 117 3 H st) ∧
  (∀ ls st H, aGo cl none cd_206 1 6 ls st H = aIret 1 st H) :=
  ⟨fun _ _ _ => (aGo_s rfl).trans rfl, fun _ _ _ => (aGo_s rfl).trans rfl, fun _ _ _ => (aGo_s rfl).trans rfl, fun _ _ _ => (aGo_s rfl).trans rfl, fun _ _ _ => (aGo_s rfl).trans rfl⟩
theorem e_206 {d : Nat} {x0 : Int32} {H : aH} : aCall aMt (d + 1) 206 [.int x0] H = aGo (aCall aMt d) none cd_206 1 0 [some (.int x0)] [] H := (c_0 rfl ⟨rfl, Nat.le_of_ble_eq_true rfl, Nat.le_of_ble_eq_true rfl⟩).trans rfl
theorem s_207 {cl : Nat → List Value → aH → aRs} : (∀ ls st H, aGo cl none cd_207 0 0 ls st H = aILoad (fun st => aGo cl none cd_207 0 1 ls st H) ls 1 st) ∧
  (∀ ls st H, aGo cl none cd_207 0 1 ls st H = aCallI (fun st H => aGo cl none cd_207 0 4 ls st H) cl 206 1 H st) ∧
  (∀ ls st H, aGo cl none cd_207 0 4 ls st H = aIf (fun p st => aGo cl none cd_207 0 p ls st H) .eq 29 7 st) ∧
  (∀ ls st H, aGo cl none cd_207 0 7 ls st H = aILoad (fun st => aGo cl none cd_207 0 8 ls st H) ls 2 st) ∧
  (∀ ls st H, aGo cl none cd_207 0 8 ls st H = aIf (fun p st => aGo cl none cd_207 0 p ls st H) .eq 35 11 st) ∧
  (∀ ls st H, aGo cl none cd_207 0 11 ls st H = aILoad (fun st => aGo cl none cd_207 0 12 ls st H) ls 2 st) ∧
  (∀ ls st H, aGo cl none cd_207 0 12 ls st H = aGo cl none cd_207 0 14 ls (.int 8 :: st) H) ∧
  (∀ ls st H, aGo cl none cd_207 0 14 ls st H = aIc (fun p st => aGo cl none cd_207 0 p ls st H) .eq 35 17 st) ∧
  (∀ ls st H, aGo cl none cd_207 0 17 ls st H = aILoad (fun st => aGo cl none cd_207 0 18 ls st H) ls 2 st) ∧
  (∀ ls st H, aGo cl none cd_207 0 18 ls st H = aGo cl none cd_207 0 20 ls (.int 16 :: st) H) ∧
  (∀ ls st H, aGo cl none cd_207 0 20 ls st H = aIc (fun p st => aGo cl none cd_207 0 p ls st H) .eq 35 23 st) ∧
  (∀ ls st H, aGo cl none cd_207 0 23 ls st H = aILoad (fun st => aGo cl none cd_207 0 24 ls st H) ls 2 st) ∧
  (∀ ls st H, aGo cl none cd_207 0 24 ls st H = aGo cl none cd_207 0 26 ls (.int 32 :: st) H) ∧
  (∀ ls st H, aGo cl none cd_207 0 26 ls st H = aIc (fun p st => aGo cl none cd_207 0 p ls st H) .eq 35 29 st) ∧
  (∀ ls st H, aGo cl none cd_207 0 29 ls st H = aRLoad (fun st => aGo cl none cd_207 0 30 ls st H) ls 0 st) ∧
  (∀ ls st H, aGo cl none cd_207 0 30 ls st H = aGo cl none cd_207 0 31 ls (.int 1 :: st) H) ∧
  (∀ ls st H, aGo cl none cd_207 0 31 ls st H = aCallV (fun st H => aGo cl none cd_207 0 34 ls st H) cl 116 1 8 H st) ∧
  (∀ ls st H, aGo cl none cd_207 0 34 ls st H = aIret 0 st H) ∧
  (∀ ls st H, aGo cl none cd_207 0 35 ls st H = aILoad (fun st => aGo cl none cd_207 0 36 ls st H) ls 2 st) ∧
  (∀ ls st H, aGo cl none cd_207 0 36 ls st H = aIf (fun p st => aGo cl none cd_207 0 p ls st H) .eq 49 39 st) ∧
  (∀ ls st H, aGo cl none cd_207 0 39 ls st H = aILoad (fun st => aGo cl none cd_207 0 40 ls st H) ls 3 st) ∧
  (∀ ls st H, aGo cl none cd_207 0 40 ls st H = aIf (fun p st => aGo cl none cd_207 0 p ls st H) .ge 49 43 st) ∧
  (∀ ls st H, aGo cl none cd_207 0 43 ls st H = aRLoad (fun st => aGo cl none cd_207 0 44 ls st H) ls 0 st) ∧
  (∀ ls st H, aGo cl none cd_207 0 44 ls st H = aGo cl none cd_207 0 45 ls (.int 3 :: st) H) ∧
  (∀ ls st H, aGo cl none cd_207 0 45 ls st H = aCallV (fun st H => aGo cl none cd_207 0 48 ls st H) cl 116 1 8 H st) ∧
  (∀ ls st H, aGo cl none cd_207 0 48 ls st H = aIret 0 st H) ∧
  (∀ ls st H, aGo cl none cd_207 0 49 ls st H = aILoad (fun st => aGo cl none cd_207 0 50 ls st H) ls 2 st) ∧
  (∀ ls st H, aGo cl none cd_207 0 50 ls st H = aIf (fun p st => aGo cl none cd_207 0 p ls st H) .eq 65 53 st) ∧
  (∀ ls st H, aGo cl none cd_207 0 53 ls st H = aILoad (fun st => aGo cl none cd_207 0 54 ls st H) ls 3 st) ∧
  (∀ ls st H, aGo cl none cd_207 0 54 ls st H = aGo cl none cd_207 0 56 ls (.int 24 :: st) H) ∧
  (∀ ls st H, aGo cl none cd_207 0 56 ls st H = aIc (fun p st => aGo cl none cd_207 0 p ls st H) .le 65 59 st) ∧
  (∀ ls st H, aGo cl none cd_207 0 59 ls st H = aRLoad (fun st => aGo cl none cd_207 0 60 ls st H) ls 0 st) ∧
  (∀ ls st H, aGo cl none cd_207 0 60 ls st H = aGo cl none cd_207 0 61 ls (.int 1 :: st) H) ∧
  (∀ ls st H, aGo cl none cd_207 0 61 ls st H = aCallV (fun st H => aGo cl none cd_207 0 64 ls st H) cl 116 1 8 H st) ∧
  (∀ ls st H, aGo cl none cd_207 0 64 ls st H = aIret 0 st H) ∧
  (∀ ls st H, aGo cl none cd_207 0 65 ls st H = aRLoad (fun st => aGo cl none cd_207 0 66 ls st H) ls 0 st) ∧
  (∀ ls st H, aGo cl none cd_207 0 66 ls st H = aGet (fun st => aGo cl none cd_207 0 69 ls st H) 8 18 H st) ∧
  (∀ ls st H, aGo cl none cd_207 0 69 ls st H = aILoad (fun st => aGo cl none cd_207 0 70 ls st H) ls 1 st) ∧
  (∀ ls st H, aGo cl none cd_207 0 70 ls st H = aILoad (fun st => aGo cl none cd_207 0 71 ls st H) ls 2 st) ∧
  (∀ ls st H, aGo cl none cd_207 0 71 ls st H = aIast (fun st H => aGo cl none cd_207 0 72 ls st H) H st) ∧
  (∀ ls st H, aGo cl none cd_207 0 72 ls st H = aRLoad (fun st => aGo cl none cd_207 0 73 ls st H) ls 0 st) ∧
  (∀ ls st H, aGo cl none cd_207 0 73 ls st H = aGet (fun st => aGo cl none cd_207 0 76 ls st H) 8 19 H st) ∧
  (∀ ls st H, aGo cl none cd_207 0 76 ls st H = aILoad (fun st => aGo cl none cd_207 0 77 ls st H) ls 1 st) ∧
  (∀ ls st H, aGo cl none cd_207 0 77 ls st H = aILoad (fun st => aGo cl none cd_207 0 78 ls st H) ls 2 st) ∧
  (∀ ls st H, aGo cl none cd_207 0 78 ls st H = aIf (fun p st => aGo cl none cd_207 0 p ls st H) .ne 85 81 st) ∧
  (∀ ls st H, aGo cl none cd_207 0 81 ls st H = aGo cl none cd_207 0 82 ls (.int 0 :: st) H) ∧
  (∀ ls st H, aGo cl none cd_207 0 82 ls st H = aGo cl none cd_207 0 86 ls st H) ∧
  (∀ ls st H, aGo cl none cd_207 0 85 ls st H = aILoad (fun st => aGo cl none cd_207 0 86 ls st H) ls 3 st) ∧
  (∀ ls st H, aGo cl none cd_207 0 86 ls st H = aIast (fun st H => aGo cl none cd_207 0 87 ls st H) H st) ∧
  (∀ ls st H, aGo cl none cd_207 0 87 ls st H = aGo cl none cd_207 0 88 ls (.int 0 :: st) H) ∧
  (∀ ls st H, aGo cl none cd_207 0 88 ls st H = aIStore (fun ls st => aGo cl none cd_207 0 90 ls st H) ls 4 st) ∧
  (∀ ls st H, aGo cl none cd_207 0 92 ls st H = aGo cl none cd_207 0 94 ls (.int 24 :: st) H) ∧
  (∀ ls st H, aGo cl none cd_207 0 94 ls st H = aIc (fun p st => aGo cl none cd_207 0 p ls st H) .ge 116 97 st) ∧
  (∀ ls st H, aGo cl none cd_207 0 97 ls st H = aRLoad (fun st => aGo cl none cd_207 0 98 ls st H) ls 0 st) ∧
  (∀ ls st H, aGo cl none cd_207 0 98 ls st H = aGet (fun st => aGo cl none cd_207 0 101 ls st H) 8 20 H st) ∧
  (∀ ls st H, aGo cl none cd_207 0 101 ls st H = aGo cl none cd_207 0 103 ls (.int 24 :: st) H) ∧
  (∀ ls st H, aGo cl none cd_207 0 103 ls st H = aILoad (fun st => aGo cl none cd_207 0 104 ls st H) ls 1 st) ∧
  (∀ ls st H, aGo cl none cd_207 0 104 ls st H = aBin (fun st => aGo cl none cd_207 0 105 ls st H) (fun x y => x * y) st) ∧
  (∀ ls st H, aGo cl none cd_207 0 105 ls st H = aILoad (fun st => aGo cl none cd_207 0 107 ls st H) ls 4 st) ∧
  (∀ ls st H, aGo cl none cd_207 0 107 ls st H = aBin (fun st => aGo cl none cd_207 0 108 ls st H) (fun x y => x + y) st) ∧
  (∀ ls st H, aGo cl none cd_207 0 108 ls st H = aGo cl none cd_207 0 109 ls (.int 0 :: st) H) ∧
  (∀ ls st H, aGo cl none cd_207 0 109 ls st H = aIast (fun st H => aGo cl none cd_207 0 110 ls st H) H st) ∧
  (∀ ls st H, aGo cl none cd_207 0 110 ls st H = aInc (fun ls => aGo cl none cd_207 0 113 ls st H) ls 4 1) ∧
  (∀ ls st H, aGo cl none cd_207 0 113 ls st H = aGo cl none cd_207 0 90 ls st H) ∧
  (∀ ls st H, aGo cl none cd_207 0 116 ls st H = aGo cl none cd_207 0 117 ls (.int 1 :: st) H) ∧
  (∀ ls st H, aGo cl none cd_207 0 117 ls st H = aIret 0 st H) :=
  ⟨fun _ _ _ => (aGo_s rfl).trans rfl, fun _ _ _ => (aGo_s rfl).trans rfl, fun _ _ _ => (aGo_s rfl).trans rfl, fun _ _ _ => (aGo_s rfl).trans rfl, fun _ _ _ => (aGo_s rfl).trans rfl, fun _ _ _ => (aGo_s rfl).trans rfl, fun _ _ _ => (aGo_s rfl).trans rfl, fun _ _ _ => (aGo_s rfl).trans rfl, fun _ _ _ => (aGo_s rfl).trans rfl, fun _ _ _ => (aGo_s rfl).trans rfl, fun _ _ _ => (aGo_s rfl).trans rfl, fun _ _ _ => (aGo_s rfl).trans rfl, fun _ _ _ => (aGo_s rfl).trans rfl, fun _ _ _ => (aGo_s rfl).trans rfl, fun _ _ _ => (aGo_s rfl).trans rfl, fun _ _ _ => (aGo_s rfl).trans rfl, fun _ _ _ => (aGo_s rfl).trans rfl, fun _ _ _ => (aGo_s rfl).trans rfl, fun _ _ _ => (aGo_s rfl).trans rfl, fun _ _ _ => (aGo_s rfl).trans rfl, fun _ _ _ => (aGo_s rfl).trans rfl, fun _ _ _ => (aGo_s rfl).trans rfl, fun _ _ _ => (aGo_s rfl).trans rfl, fun _ _ _ => (aGo_s rfl).trans rfl, fun _ _ _ => (aGo_s rfl).trans rfl, fun _ _ _ => (aGo_s rfl).trans rfl, fun _ _ _ => (aGo_s rfl).trans rfl, fun _ _ _ => (aGo_s rfl).trans rfl, fun _ _ _ => (aGo_s rfl).trans rfl, fun _ _ _ => (aGo_s rfl).trans rfl, fun _ _ _ => (aGo_s rfl).trans rfl, fun _ _ _ => (aGo_s rfl).trans rfl, fun _ _ _ => (aGo_s rfl).trans rfl, fun _ _ _ => (aGo_s rfl).trans rfl, fun _ _ _ => (aGo_s rfl).trans rfl, fun _ _ _ => (aGo_s rfl).trans rfl, fun _ _ _ => (aGo_s rfl).trans rfl, fun _ _ _ => (aGo_s rfl).trans rfl, fun _ _ _ => (aGo_s rfl).trans rfl, fun _ _ _ => (aGo_s rfl).trans rfl, fun _ _ _ => (aGo_s rfl).trans rfl, fun _ _ _ => (aGo_s rfl).trans rfl, fun _ _ _ => (aGo_s rfl).trans rfl, fun _ _ _ => (aGo_s rfl).trans rfl, fun _ _ _ => (aGo_s rfl).trans rfl, fun _ _ _ => (aGo_s rfl).trans rfl, fun _ _ _ => (aGo_s rfl).trans rfl, fun _ _ _ => (aGo_s rfl).trans rfl, fun _ _ _ => (aGo_s rfl).trans rfl, fun _ _ _ => (aGo_s rfl).trans rfl, fun _ _ _ => (aGo_s rfl).trans rfl, fun _ _ _ => (aGo_s rfl).trans rfl, fun _ _ _ => (aGo_s rfl).trans rfl, fun _ _ _ => (aGo_s rfl).trans rfl, fun _ _ _ => (aGo_s rfl).trans rfl, fun _ _ _ => (aGo_s rfl).trans rfl, fun _ _ _ => (aGo_s rfl).trans rfl, fun _ _ _ => (aGo_s rfl).trans rfl, fun _ _ _ => (aGo_s rfl).trans rfl, fun _ _ _ => (aGo_s rfl).trans rfl, fun _ _ _ => (aGo_s rfl).trans rfl, fun _ _ _ => (aGo_s rfl).trans rfl, fun _ _ _ => (aGo_s rfl).trans rfl, fun _ _ _ => (aGo_s rfl).trans rfl, fun _ _ _ => (aGo_s rfl).trans rfl, fun _ _ _ => (aGo_s rfl).trans rfl⟩
theorem s_207_90 {cl : Nat → List Value → aH → aRs} : ∀ ls st H, aGo cl none cd_207 0 90 ls st H = aILoad (fun st => aGo cl none cd_207 0 92 ls st H) ls 4 st := fun _ _ _ => (aGo_s rfl).trans rfl
theorem e_207 {d : Nat} {x0 : Nat} {x1 : Int32} {x2 : Int32} {x3 : Int32} {H : aH} : aCall aMt (d + 1) 207 [.ref x0, .int x1, .int x2, .int x3] H = aGo (aCall aMt d) none cd_207 0 0 [some (.ref x0), some (.int x1), some (.int x2), some (.int x3), none] [] H := (c_0 rfl ⟨rfl, Nat.le_of_ble_eq_true rfl, Nat.le_of_ble_eq_true rfl⟩).trans rfl
theorem s_208 {cl : Nat → List Value → aH → aRs} : (∀ ls st H, aGo cl none cd_208 0 0 ls st H = aILoad (fun st => aGo cl none cd_208 0 1 ls st H) ls 1 st) ∧
  (∀ ls st H, aGo cl none cd_208 0 1 ls st H = aCallI (fun st H => aGo cl none cd_208 0 4 ls st H) cl 206 1 H st) ∧
  (∀ ls st H, aGo cl none cd_208 0 4 ls st H = aIf (fun p st => aGo cl none cd_208 0 p ls st H) .ne 13 7 st) ∧
  (∀ ls st H, aGo cl none cd_208 0 7 ls st H = aRLoad (fun st => aGo cl none cd_208 0 8 ls st H) ls 0 st) ∧
  (∀ ls st H, aGo cl none cd_208 0 8 ls st H = aGo cl none cd_208 0 9 ls (.int 1 :: st) H) ∧
  (∀ ls st H, aGo cl none cd_208 0 9 ls st H = aCallV (fun st H => aGo cl none cd_208 0 12 ls st H) cl 116 1 8 H st) ∧
  (∀ ls st H, aGo cl none cd_208 0 12 ls st H = aIret 0 st H) ∧
  (∀ ls st H, aGo cl none cd_208 0 13 ls st H = aRLoad (fun st => aGo cl none cd_208 0 14 ls st H) ls 0 st) ∧
  (∀ ls st H, aGo cl none cd_208 0 14 ls st H = aGet (fun st => aGo cl none cd_208 0 17 ls st H) 8 18 H st) ∧
  (∀ ls st H, aGo cl none cd_208 0 17 ls st H = aILoad (fun st => aGo cl none cd_208 0 18 ls st H) ls 1 st) ∧
  (∀ ls st H, aGo cl none cd_208 0 18 ls st H = aIald (fun st => aGo cl none cd_208 0 19 ls st H) none H st) ∧
  (∀ ls st H, aGo cl none cd_208 0 19 ls st H = aIf (fun p st => aGo cl none cd_208 0 p ls st H) .ne 28 22 st) ∧
  (∀ ls st H, aGo cl none cd_208 0 22 ls st H = aRLoad (fun st => aGo cl none cd_208 0 23 ls st H) ls 0 st) ∧
  (∀ ls st H, aGo cl none cd_208 0 23 ls st H = aGo cl none cd_208 0 24 ls (.int 2 :: st) H) ∧
  (∀ ls st H, aGo cl none cd_208 0 24 ls st H = aCallV (fun st H => aGo cl none cd_208 0 27 ls st H) cl 116 1 8 H st) ∧
  (∀ ls st H, aGo cl none cd_208 0 27 ls st H = aIret 0 st H) ∧
  (∀ ls st H, aGo cl none cd_208 0 28 ls st H = aILoad (fun st => aGo cl none cd_208 0 29 ls st H) ls 2 st) ∧
  (∀ ls st H, aGo cl none cd_208 0 29 ls st H = aGo cl none cd_208 0 30 ls (.int 0 :: st) H) ∧
  (∀ ls st H, aGo cl none cd_208 0 30 ls st H = aRLoad (fun st => aGo cl none cd_208 0 31 ls st H) ls 0 st) ∧
  (∀ ls st H, aGo cl none cd_208 0 31 ls st H = aGet (fun st => aGo cl none cd_208 0 34 ls st H) 8 19 H st) ∧
  (∀ ls st H, aGo cl none cd_208 0 34 ls st H = aILoad (fun st => aGo cl none cd_208 0 35 ls st H) ls 1 st) ∧
  (∀ ls st H, aGo cl none cd_208 0 35 ls st H = aIald (fun st => aGo cl none cd_208 0 36 ls st H) none H st) ∧
  (∀ ls st H, aGo cl none cd_208 0 36 ls st H = aGo cl none cd_208 0 37 ls (.int 1 :: st) H) ∧
  (∀ ls st H, aGo cl none cd_208 0 37 ls st H = aBin (fun st => aGo cl none cd_208 0 38 ls st H) (fun x y => x - y) st) ∧
  (∀ ls st H, aGo cl none cd_208 0 38 ls st H = aCallI (fun st H => aGo cl none cd_208 0 41 ls st H) cl 117 3 H st) ∧
  (∀ ls st H, aGo cl none cd_208 0 41 ls st H = aIf (fun p st => aGo cl none cd_208 0 p ls st H) .ne 50 44 st) ∧
  (∀ ls st H, aGo cl none cd_208 0 44 ls st H = aRLoad (fun st => aGo cl none cd_208 0 45 ls st H) ls 0 st) ∧
  (∀ ls st H, aGo cl none cd_208 0 45 ls st H = aGo cl none cd_208 0 46 ls (.int 1 :: st) H) ∧
  (∀ ls st H, aGo cl none cd_208 0 46 ls st H = aCallV (fun st H => aGo cl none cd_208 0 49 ls st H) cl 116 1 8 H st) ∧
  (∀ ls st H, aGo cl none cd_208 0 49 ls st H = aIret 0 st H) ∧
  (∀ ls st H, aGo cl none cd_208 0 50 ls st H = aGo cl none cd_208 0 52 ls (.int 32 :: st) H) ∧
  (∀ ls st H, aGo cl none cd_208 0 52 ls st H = aRLoad (fun st => aGo cl none cd_208 0 53 ls st H) ls 0 st) ∧
  (∀ ls st H, aGo cl none cd_208 0 53 ls st H = aGet (fun st => aGo cl none cd_208 0 56 ls st H) 8 18 H st) ∧
  (∀ ls st H, aGo cl none cd_208 0 56 ls st H = aILoad (fun st => aGo cl none cd_208 0 57 ls st H) ls 1 st) ∧
  (∀ ls st H, aGo cl none cd_208 0 57 ls st H = aIald (fun st => aGo cl none cd_208 0 58 ls st H) none H st) ∧
  (∀ ls st H, aGo cl none cd_208 0 58 ls st H = aBin (fun st => aGo cl none cd_208 0 59 ls st H) (fun x y => x - y) st) ∧
  (∀ ls st H, aGo cl none cd_208 0 59 ls st H = aIStore (fun ls st => aGo cl none cd_208 0 61 ls st H) ls 4 st) ∧
  (∀ ls st H, aGo cl none cd_208 0 61 ls st H = aRLoad (fun st => aGo cl none cd_208 0 62 ls st H) ls 0 st) ∧
  (∀ ls st H, aGo cl none cd_208 0 62 ls st H = aGet (fun st => aGo cl none cd_208 0 65 ls st H) 8 20 H st) ∧
  (∀ ls st H, aGo cl none cd_208 0 65 ls st H = aGo cl none cd_208 0 67 ls (.int 24 :: st) H) ∧
  (∀ ls st H, aGo cl none cd_208 0 67 ls st H = aILoad (fun st => aGo cl none cd_208 0 68 ls st H) ls 1 st) ∧
  (∀ ls st H, aGo cl none cd_208 0 68 ls st H = aBin (fun st => aGo cl none cd_208 0 69 ls st H) (fun x y => x * y) st) ∧
  (∀ ls st H, aGo cl none cd_208 0 69 ls st H = aILoad (fun st => aGo cl none cd_208 0 70 ls st H) ls 2 st) ∧
  (∀ ls st H, aGo cl none cd_208 0 70 ls st H = aBin (fun st => aGo cl none cd_208 0 71 ls st H) (fun x y => x + y) st) ∧
  (∀ ls st H, aGo cl none cd_208 0 71 ls st H = aILoad (fun st => aGo cl none cd_208 0 72 ls st H) ls 3 st) ∧
  (∀ ls st H, aGo cl none cd_208 0 72 ls st H = aILoad (fun st => aGo cl none cd_208 0 74 ls st H) ls 4 st) ∧
  (∀ ls st H, aGo cl none cd_208 0 74 ls st H = aBin (fun st => aGo cl none cd_208 0 75 ls st H) (fun x y => x <<< (y &&& 31)) st) ∧
  (∀ ls st H, aGo cl none cd_208 0 75 ls st H = aILoad (fun st => aGo cl none cd_208 0 77 ls st H) ls 4 st) ∧
  (∀ ls st H, aGo cl none cd_208 0 77 ls st H = aBin (fun st => aGo cl none cd_208 0 78 ls st H) (fun x y => x >>> (y &&& 31)) st) ∧
  (∀ ls st H, aGo cl none cd_208 0 78 ls st H = aIast (fun st H => aGo cl none cd_208 0 79 ls st H) H st) ∧
  (∀ ls st H, aGo cl none cd_208 0 79 ls st H = aGo cl none cd_208 0 80 ls (.int 1 :: st) H) ∧
  (∀ ls st H, aGo cl none cd_208 0 80 ls st H = aIret 0 st H) :=
  ⟨fun _ _ _ => (aGo_s rfl).trans rfl, fun _ _ _ => (aGo_s rfl).trans rfl, fun _ _ _ => (aGo_s rfl).trans rfl, fun _ _ _ => (aGo_s rfl).trans rfl, fun _ _ _ => (aGo_s rfl).trans rfl, fun _ _ _ => (aGo_s rfl).trans rfl, fun _ _ _ => (aGo_s rfl).trans rfl, fun _ _ _ => (aGo_s rfl).trans rfl, fun _ _ _ => (aGo_s rfl).trans rfl, fun _ _ _ => (aGo_s rfl).trans rfl, fun _ _ _ => (aGo_s rfl).trans rfl, fun _ _ _ => (aGo_s rfl).trans rfl, fun _ _ _ => (aGo_s rfl).trans rfl, fun _ _ _ => (aGo_s rfl).trans rfl, fun _ _ _ => (aGo_s rfl).trans rfl, fun _ _ _ => (aGo_s rfl).trans rfl, fun _ _ _ => (aGo_s rfl).trans rfl, fun _ _ _ => (aGo_s rfl).trans rfl, fun _ _ _ => (aGo_s rfl).trans rfl, fun _ _ _ => (aGo_s rfl).trans rfl, fun _ _ _ => (aGo_s rfl).trans rfl, fun _ _ _ => (aGo_s rfl).trans rfl, fun _ _ _ => (aGo_s rfl).trans rfl, fun _ _ _ => (aGo_s rfl).trans rfl, fun _ _ _ => (aGo_s rfl).trans rfl, fun _ _ _ => (aGo_s rfl).trans rfl, fun _ _ _ => (aGo_s rfl).trans rfl, fun _ _ _ => (aGo_s rfl).trans rfl, fun _ _ _ => (aGo_s rfl).trans rfl, fun _ _ _ => (aGo_s rfl).trans rfl, fun _ _ _ => (aGo_s rfl).trans rfl, fun _ _ _ => (aGo_s rfl).trans rfl, fun _ _ _ => (aGo_s rfl).trans rfl, fun _ _ _ => (aGo_s rfl).trans rfl, fun _ _ _ => (aGo_s rfl).trans rfl, fun _ _ _ => (aGo_s rfl).trans rfl, fun _ _ _ => (aGo_s rfl).trans rfl, fun _ _ _ => (aGo_s rfl).trans rfl, fun _ _ _ => (aGo_s rfl).trans rfl, fun _ _ _ => (aGo_s rfl).trans rfl, fun _ _ _ => (aGo_s rfl).trans rfl, fun _ _ _ => (aGo_s rfl).trans rfl, fun _ _ _ => (aGo_s rfl).trans rfl, fun _ _ _ => (aGo_s rfl).trans rfl, fun _ _ _ => (aGo_s rfl).trans rfl, fun _ _ _ => (aGo_s rfl).trans rfl, fun _ _ _ => (aGo_s rfl).trans rfl, fun _ _ _ => (aGo_s rfl).trans rfl, fun _ _ _ => (aGo_s rfl).trans rfl, fun _ _ _ => (aGo_s rfl).trans rfl, fun _ _ _ => (aGo_s rfl).trans rfl, fun _ _ _ => (aGo_s rfl).trans rfl⟩
theorem e_208 {d : Nat} {x0 : Nat} {x1 : Int32} {x2 : Int32} {x3 : Int32} {H : aH} : aCall aMt (d + 1) 208 [.ref x0, .int x1, .int x2, .int x3] H = aGo (aCall aMt d) none cd_208 0 0 [some (.ref x0), some (.int x1), some (.int x2), some (.int x3), none] [] H := (c_0 rfl ⟨rfl, Nat.le_of_ble_eq_true rfl, Nat.le_of_ble_eq_true rfl⟩).trans rfl
theorem s_209 {cl : Nat → List Value → aH → aRs} : (∀ ls st H, aGo cl none cd_209 0 0 ls st H = aILoad (fun st => aGo cl none cd_209 0 1 ls st H) ls 1 st) ∧
  (∀ ls st H, aGo cl none cd_209 0 1 ls st H = aCallI (fun st H => aGo cl none cd_209 0 4 ls st H) cl 206 1 H st) ∧
  (∀ ls st H, aGo cl none cd_209 0 4 ls st H = aIf (fun p st => aGo cl none cd_209 0 p ls st H) .eq 14 7 st) ∧
  (∀ ls st H, aGo cl none cd_209 0 7 ls st H = aILoad (fun st => aGo cl none cd_209 0 8 ls st H) ls 3 st) ∧
  (∀ ls st H, aGo cl none cd_209 0 8 ls st H = aCallI (fun st H => aGo cl none cd_209 0 11 ls st H) cl 206 1 H st) ∧
  (∀ ls st H, aGo cl none cd_209 0 11 ls st H = aIf (fun p st => aGo cl none cd_209 0 p ls st H) .ne 20 14 st) ∧
  (∀ ls st H, aGo cl none cd_209 0 14 ls st H = aRLoad (fun st => aGo cl none cd_209 0 15 ls st H) ls 0 st) ∧
  (∀ ls st H, aGo cl none cd_209 0 15 ls st H = aGo cl none cd_209 0 16 ls (.int 1 :: st) H) ∧
  (∀ ls st H, aGo cl none cd_209 0 16 ls st H = aCallV (fun st H => aGo cl none cd_209 0 19 ls st H) cl 116 1 8 H st) ∧
  (∀ ls st H, aGo cl none cd_209 0 19 ls st H = aIret 0 st H) ∧
  (∀ ls st H, aGo cl none cd_209 0 20 ls st H = aRLoad (fun st => aGo cl none cd_209 0 21 ls st H) ls 0 st) ∧
  (∀ ls st H, aGo cl none cd_209 0 21 ls st H = aGet (fun st => aGo cl none cd_209 0 24 ls st H) 8 18 H st) ∧
  (∀ ls st H, aGo cl none cd_209 0 24 ls st H = aILoad (fun st => aGo cl none cd_209 0 25 ls st H) ls 1 st) ∧
  (∀ ls st H, aGo cl none cd_209 0 25 ls st H = aIald (fun st => aGo cl none cd_209 0 26 ls st H) none H st) ∧
  (∀ ls st H, aGo cl none cd_209 0 26 ls st H = aIf (fun p st => aGo cl none cd_209 0 p ls st H) .eq 38 29 st) ∧
  (∀ ls st H, aGo cl none cd_209 0 29 ls st H = aRLoad (fun st => aGo cl none cd_209 0 30 ls st H) ls 0 st) ∧
  (∀ ls st H, aGo cl none cd_209 0 30 ls st H = aGet (fun st => aGo cl none cd_209 0 33 ls st H) 8 18 H st) ∧
  (∀ ls st H, aGo cl none cd_209 0 33 ls st H = aILoad (fun st => aGo cl none cd_209 0 34 ls st H) ls 3 st) ∧
  (∀ ls st H, aGo cl none cd_209 0 34 ls st H = aIald (fun st => aGo cl none cd_209 0 35 ls st H) none H st) ∧
  (∀ ls st H, aGo cl none cd_209 0 35 ls st H = aIf (fun p st => aGo cl none cd_209 0 p ls st H) .ne 44 38 st) ∧
  (∀ ls st H, aGo cl none cd_209 0 38 ls st H = aRLoad (fun st => aGo cl none cd_209 0 39 ls st H) ls 0 st) ∧
  (∀ ls st H, aGo cl none cd_209 0 39 ls st H = aGo cl none cd_209 0 40 ls (.int 2 :: st) H) ∧
  (∀ ls st H, aGo cl none cd_209 0 40 ls st H = aCallV (fun st H => aGo cl none cd_209 0 43 ls st H) cl 116 1 8 H st) ∧
  (∀ ls st H, aGo cl none cd_209 0 43 ls st H = aIret 0 st H) ∧
  (∀ ls st H, aGo cl none cd_209 0 44 ls st H = aRLoad (fun st => aGo cl none cd_209 0 45 ls st H) ls 0 st) ∧
  (∀ ls st H, aGo cl none cd_209 0 45 ls st H = aGet (fun st => aGo cl none cd_209 0 48 ls st H) 8 18 H st) ∧
  (∀ ls st H, aGo cl none cd_209 0 48 ls st H = aILoad (fun st => aGo cl none cd_209 0 49 ls st H) ls 1 st) ∧
  (∀ ls st H, aGo cl none cd_209 0 49 ls st H = aIald (fun st => aGo cl none cd_209 0 50 ls st H) none H st) ∧
  (∀ ls st H, aGo cl none cd_209 0 50 ls st H = aRLoad (fun st => aGo cl none cd_209 0 51 ls st H) ls 0 st) ∧
  (∀ ls st H, aGo cl none cd_209 0 51 ls st H = aGet (fun st => aGo cl none cd_209 0 54 ls st H) 8 18 H st) ∧
  (∀ ls st H, aGo cl none cd_209 0 54 ls st H = aILoad (fun st => aGo cl none cd_209 0 55 ls st H) ls 3 st) ∧
  (∀ ls st H, aGo cl none cd_209 0 55 ls st H = aIald (fun st => aGo cl none cd_209 0 56 ls st H) none H st) ∧
  (∀ ls st H, aGo cl none cd_209 0 56 ls st H = aIc (fun p st => aGo cl none cd_209 0 p ls st H) .eq 65 59 st) ∧
  (∀ ls st H, aGo cl none cd_209 0 59 ls st H = aRLoad (fun st => aGo cl none cd_209 0 60 ls st H) ls 0 st) ∧
  (∀ ls st H, aGo cl none cd_209 0 60 ls st H = aGo cl none cd_209 0 61 ls (.int 5 :: st) H) ∧
  (∀ ls st H, aGo cl none cd_209 0 61 ls st H = aCallV (fun st H => aGo cl none cd_209 0 64 ls st H) cl 116 1 8 H st) ∧
  (∀ ls st H, aGo cl none cd_209 0 64 ls st H = aIret 0 st H) ∧
  (∀ ls st H, aGo cl none cd_209 0 65 ls st H = aILoad (fun st => aGo cl none cd_209 0 67 ls st H) ls 5 st) ∧
  (∀ ls st H, aGo cl none cd_209 0 67 ls st H = aIf (fun p st => aGo cl none cd_209 0 p ls st H) .lt 106 70 st) ∧
  (∀ ls st H, aGo cl none cd_209 0 70 ls st H = aILoad (fun st => aGo cl none cd_209 0 71 ls st H) ls 2 st) ∧
  (∀ ls st H, aGo cl none cd_209 0 71 ls st H = aIf (fun p st => aGo cl none cd_209 0 p ls st H) .lt 106 74 st) ∧
  (∀ ls st H, aGo cl none cd_209 0 74 ls st H = aILoad (fun st => aGo cl none cd_209 0 76 ls st H) ls 4 st) ∧
  (∀ ls st H, aGo cl none cd_209 0 76 ls st H = aIf (fun p st => aGo cl none cd_209 0 p ls st H) .lt 106 79 st) ∧
  (∀ ls st H, aGo cl none cd_209 0 79 ls st H = aILoad (fun st => aGo cl none cd_209 0 80 ls st H) ls 2 st) ∧
  (∀ ls st H, aGo cl none cd_209 0 80 ls st H = aRLoad (fun st => aGo cl none cd_209 0 81 ls st H) ls 0 st) ∧
  (∀ ls st H, aGo cl none cd_209 0 81 ls st H = aGet (fun st => aGo cl none cd_209 0 84 ls st H) 8 19 H st) ∧
  (∀ ls st H, aGo cl none cd_209 0 84 ls st H = aILoad (fun st => aGo cl none cd_209 0 85 ls st H) ls 1 st) ∧
  (∀ ls st H, aGo cl none cd_209 0 85 ls st H = aIald (fun st => aGo cl none cd_209 0 86 ls st H) none H st) ∧
  (∀ ls st H, aGo cl none cd_209 0 86 ls st H = aILoad (fun st => aGo cl none cd_209 0 88 ls st H) ls 5 st) ∧
  (∀ ls st H, aGo cl none cd_209 0 88 ls st H = aBin (fun st => aGo cl none cd_209 0 89 ls st H) (fun x y => x - y) st) ∧
  (∀ ls st H, aGo cl none cd_209 0 89 ls st H = aIc (fun p st => aGo cl none cd_209 0 p ls st H) .gt 106 92 st) ∧
  (∀ ls st H, aGo cl none cd_209 0 92 ls st H = aILoad (fun st => aGo cl none cd_209 0 94 ls st H) ls 4 st) ∧
  (∀ ls st H, aGo cl none cd_209 0 94 ls st H = aRLoad (fun st => aGo cl none cd_209 0 95 ls st H) ls 0 st) ∧
  (∀ ls st H, aGo cl none cd_209 0 95 ls st H = aGet (fun st => aGo cl none cd_209 0 98 ls st H) 8 19 H st) ∧
  (∀ ls st H, aGo cl none cd_209 0 98 ls st H = aILoad (fun st => aGo cl none cd_209 0 99 ls st H) ls 3 st) ∧
  (∀ ls st H, aGo cl none cd_209 0 99 ls st H = aIald (fun st => aGo cl none cd_209 0 100 ls st H) none H st) ∧
  (∀ ls st H, aGo cl none cd_209 0 100 ls st H = aILoad (fun st => aGo cl none cd_209 0 102 ls st H) ls 5 st) ∧
  (∀ ls st H, aGo cl none cd_209 0 102 ls st H = aBin (fun st => aGo cl none cd_209 0 103 ls st H) (fun x y => x - y) st) ∧
  (∀ ls st H, aGo cl none cd_209 0 103 ls st H = aIc (fun p st => aGo cl none cd_209 0 p ls st H) .le 112 106 st) ∧
  (∀ ls st H, aGo cl none cd_209 0 106 ls st H = aRLoad (fun st => aGo cl none cd_209 0 107 ls st H) ls 0 st) ∧
  (∀ ls st H, aGo cl none cd_209 0 107 ls st H = aGo cl none cd_209 0 108 ls (.int 1 :: st) H) ∧
  (∀ ls st H, aGo cl none cd_209 0 108 ls st H = aCallV (fun st H => aGo cl none cd_209 0 111 ls st H) cl 116 1 8 H st) ∧
  (∀ ls st H, aGo cl none cd_209 0 111 ls st H = aIret 0 st H) ∧
  (∀ ls st H, aGo cl none cd_209 0 112 ls st H = aGo cl none cd_209 0 113 ls (.int 0 :: st) H) ∧
  (∀ ls st H, aGo cl none cd_209 0 113 ls st H = aIStore (fun ls st => aGo cl none cd_209 0 115 ls st H) ls 6 st) ∧
  (∀ ls st H, aGo cl none cd_209 0 117 ls st H = aILoad (fun st => aGo cl none cd_209 0 119 ls st H) ls 5 st) ∧
  (∀ ls st H, aGo cl none cd_209 0 119 ls st H = aIc (fun p st => aGo cl none cd_209 0 p ls st H) .ge 149 122 st) ∧
  (∀ ls st H, aGo cl none cd_209 0 122 ls st H = aRLoad (fun st => aGo cl none cd_209 0 123 ls st H) ls 0 st) ∧
  (∀ ls st H, aGo cl none cd_209 0 123 ls st H = aGet (fun st => aGo cl none cd_209 0 126 ls st H) 8 21 H st) ∧
  (∀ ls st H, aGo cl none cd_209 0 126 ls st H = aILoad (fun st => aGo cl none cd_209 0 128 ls st H) ls 6 st) ∧
  (∀ ls st H, aGo cl none cd_209 0 128 ls st H = aRLoad (fun st => aGo cl none cd_209 0 129 ls st H) ls 0 st) ∧
  (∀ ls st H, aGo cl none cd_209 0 129 ls st H = aGet (fun st => aGo cl none cd_209 0 132 ls st H) 8 20 H st) ∧
  (∀ ls st H, aGo cl none cd_209 0 132 ls st H = aGo cl none cd_209 0 134 ls (.int 24 :: st) H) ∧
  (∀ ls st H, aGo cl none cd_209 0 134 ls st H = aILoad (fun st => aGo cl none cd_209 0 135 ls st H) ls 1 st) ∧
  (∀ ls st H, aGo cl none cd_209 0 135 ls st H = aBin (fun st => aGo cl none cd_209 0 136 ls st H) (fun x y => x * y) st) ∧
  (∀ ls st H, aGo cl none cd_209 0 136 ls st H = aILoad (fun st => aGo cl none cd_209 0 137 ls st H) ls 2 st) ∧
  (∀ ls st H, aGo cl none cd_209 0 137 ls st H = aBin (fun st => aGo cl none cd_209 0 138 ls st H) (fun x y => x + y) st) ∧
  (∀ ls st H, aGo cl none cd_209 0 138 ls st H = aILoad (fun st => aGo cl none cd_209 0 140 ls st H) ls 6 st) ∧
  (∀ ls st H, aGo cl none cd_209 0 140 ls st H = aBin (fun st => aGo cl none cd_209 0 141 ls st H) (fun x y => x + y) st) ∧
  (∀ ls st H, aGo cl none cd_209 0 141 ls st H = aIald (fun st => aGo cl none cd_209 0 142 ls st H) none H st) ∧
  (∀ ls st H, aGo cl none cd_209 0 142 ls st H = aIast (fun st H => aGo cl none cd_209 0 143 ls st H) H st) ∧
  (∀ ls st H, aGo cl none cd_209 0 143 ls st H = aInc (fun ls => aGo cl none cd_209 0 146 ls st H) ls 6 1) ∧
  (∀ ls st H, aGo cl none cd_209 0 146 ls st H = aGo cl none cd_209 0 115 ls st H) ∧
  (∀ ls st H, aGo cl none cd_209 0 149 ls st H = aGo cl none cd_209 0 150 ls (.int 0 :: st) H) ∧
  (∀ ls st H, aGo cl none cd_209 0 150 ls st H = aIStore (fun ls st => aGo cl none cd_209 0 152 ls st H) ls 6 st) ∧
  (∀ ls st H, aGo cl none cd_209 0 154 ls st H = aILoad (fun st => aGo cl none cd_209 0 156 ls st H) ls 5 st) ∧
  (∀ ls st H, aGo cl none cd_209 0 156 ls st H = aIc (fun p st => aGo cl none cd_209 0 p ls st H) .ge 187 159 st) ∧
  (∀ ls st H, aGo cl none cd_209 0 159 ls st H = aRLoad (fun st => aGo cl none cd_209 0 160 ls st H) ls 0 st) ∧
  (∀ ls st H, aGo cl none cd_209 0 160 ls st H = aGet (fun st => aGo cl none cd_209 0 163 ls st H) 8 20 H st) ∧
  (∀ ls st H, aGo cl none cd_209 0 163 ls st H = aGo cl none cd_209 0 165 ls (.int 24 :: st) H) ∧
  (∀ ls st H, aGo cl none cd_209 0 165 ls st H = aILoad (fun st => aGo cl none cd_209 0 166 ls st H) ls 3 st) ∧
  (∀ ls st H, aGo cl none cd_209 0 166 ls st H = aBin (fun st => aGo cl none cd_209 0 167 ls st H) (fun x y => x * y) st) ∧
  (∀ ls st H, aGo cl none cd_209 0 167 ls st H = aILoad (fun st => aGo cl none cd_209 0 169 ls st H) ls 4 st) ∧
  (∀ ls st H, aGo cl none cd_209 0 169 ls st H = aBin (fun st => aGo cl none cd_209 0 170 ls st H) (fun x y => x + y) st) ∧
  (∀ ls st H, aGo cl none cd_209 0 170 ls st H = aILoad (fun st => aGo cl none cd_209 0 172 ls st H) ls 6 st) ∧
  (∀ ls st H, aGo cl none cd_209 0 172 ls st H = aBin (fun st => aGo cl none cd_209 0 173 ls st H) (fun x y => x + y) st) ∧
  (∀ ls st H, aGo cl none cd_209 0 173 ls st H = aRLoad (fun st => aGo cl none cd_209 0 174 ls st H) ls 0 st) ∧
  (∀ ls st H, aGo cl none cd_209 0 174 ls st H = aGet (fun st => aGo cl none cd_209 0 177 ls st H) 8 21 H st) ∧
  (∀ ls st H, aGo cl none cd_209 0 177 ls st H = aILoad (fun st => aGo cl none cd_209 0 179 ls st H) ls 6 st) ∧
  (∀ ls st H, aGo cl none cd_209 0 179 ls st H = aIald (fun st => aGo cl none cd_209 0 180 ls st H) none H st) ∧
  (∀ ls st H, aGo cl none cd_209 0 180 ls st H = aIast (fun st H => aGo cl none cd_209 0 181 ls st H) H st) ∧
  (∀ ls st H, aGo cl none cd_209 0 181 ls st H = aInc (fun ls => aGo cl none cd_209 0 184 ls st H) ls 6 1) ∧
  (∀ ls st H, aGo cl none cd_209 0 184 ls st H = aGo cl none cd_209 0 152 ls st H) ∧
  (∀ ls st H, aGo cl none cd_209 0 187 ls st H = aILoad (fun st => aGo cl none cd_209 0 189 ls st H) ls 5 st) ∧
  (∀ ls st H, aGo cl none cd_209 0 189 ls st H = aIret 0 st H) :=
  ⟨fun _ _ _ => (aGo_s rfl).trans rfl, fun _ _ _ => (aGo_s rfl).trans rfl, fun _ _ _ => (aGo_s rfl).trans rfl, fun _ _ _ => (aGo_s rfl).trans rfl, fun _ _ _ => (aGo_s rfl).trans rfl, fun _ _ _ => (aGo_s rfl).trans rfl, fun _ _ _ => (aGo_s rfl).trans rfl, fun _ _ _ => (aGo_s rfl).trans rfl, fun _ _ _ => (aGo_s rfl).trans rfl, fun _ _ _ => (aGo_s rfl).trans rfl, fun _ _ _ => (aGo_s rfl).trans rfl, fun _ _ _ => (aGo_s rfl).trans rfl, fun _ _ _ => (aGo_s rfl).trans rfl, fun _ _ _ => (aGo_s rfl).trans rfl, fun _ _ _ => (aGo_s rfl).trans rfl, fun _ _ _ => (aGo_s rfl).trans rfl, fun _ _ _ => (aGo_s rfl).trans rfl, fun _ _ _ => (aGo_s rfl).trans rfl, fun _ _ _ => (aGo_s rfl).trans rfl, fun _ _ _ => (aGo_s rfl).trans rfl, fun _ _ _ => (aGo_s rfl).trans rfl, fun _ _ _ => (aGo_s rfl).trans rfl, fun _ _ _ => (aGo_s rfl).trans rfl, fun _ _ _ => (aGo_s rfl).trans rfl, fun _ _ _ => (aGo_s rfl).trans rfl, fun _ _ _ => (aGo_s rfl).trans rfl, fun _ _ _ => (aGo_s rfl).trans rfl, fun _ _ _ => (aGo_s rfl).trans rfl, fun _ _ _ => (aGo_s rfl).trans rfl, fun _ _ _ => (aGo_s rfl).trans rfl, fun _ _ _ => (aGo_s rfl).trans rfl, fun _ _ _ => (aGo_s rfl).trans rfl, fun _ _ _ => (aGo_s rfl).trans rfl, fun _ _ _ => (aGo_s rfl).trans rfl, fun _ _ _ => (aGo_s rfl).trans rfl, fun _ _ _ => (aGo_s rfl).trans rfl, fun _ _ _ => (aGo_s rfl).trans rfl, fun _ _ _ => (aGo_s rfl).trans rfl, fun _ _ _ => (aGo_s rfl).trans rfl, fun _ _ _ => (aGo_s rfl).trans rfl, fun _ _ _ => (aGo_s rfl).trans rfl, fun _ _ _ => (aGo_s rfl).trans rfl, fun _ _ _ => (aGo_s rfl).trans rfl, fun _ _ _ => (aGo_s rfl).trans rfl, fun _ _ _ => (aGo_s rfl).trans rfl, fun _ _ _ => (aGo_s rfl).trans rfl, fun _ _ _ => (aGo_s rfl).trans rfl, fun _ _ _ => (aGo_s rfl).trans rfl, fun _ _ _ => (aGo_s rfl).trans rfl, fun _ _ _ => (aGo_s rfl).trans rfl, fun _ _ _ => (aGo_s rfl).trans rfl, fun _ _ _ => (aGo_s rfl).trans rfl, fun _ _ _ => (aGo_s rfl).trans rfl, fun _ _ _ => (aGo_s rfl).trans rfl, fun _ _ _ => (aGo_s rfl).trans rfl, fun _ _ _ => (aGo_s rfl).trans rfl, fun _ _ _ => (aGo_s rfl).trans rfl, fun _ _ _ => (aGo_s rfl).trans rfl, fun _ _ _ => (aGo_s rfl).trans rfl, fun _ _ _ => (aGo_s rfl).trans rfl, fun _ _ _ => (aGo_s rfl).trans rfl, fun _ _ _ => (aGo_s rfl).trans rfl, fun _ _ _ => (aGo_s rfl).trans rfl, fun _ _ _ => (aGo_s rfl).trans rfl, fun _ _ _ => (aGo_s rfl).trans rfl, fun _ _ _ => (aGo_s rfl).trans rfl, fun _ _ _ => (aGo_s rfl).trans rfl, fun _ _ _ => (aGo_s rfl).trans rfl, fun _ _ _ => (aGo_s rfl).trans rfl, fun _ _ _ => (aGo_s rfl).trans rfl, fun _ _ _ => (aGo_s rfl).trans rfl, fun _ _ _ => (aGo_s rfl).trans rfl, fun _ _ _ => (aGo_s rfl).trans rfl, fun _ _ _ => (aGo_s rfl).trans rfl, fun _ _ _ => (aGo_s rfl).trans rfl, fun _ _ _ => (aGo_s rfl).trans rfl, fun _ _ _ => (aGo_s rfl).trans rfl, fun _ _ _ => (aGo_s rfl).trans rfl, fun _ _ _ => (aGo_s rfl).trans rfl, fun _ _ _ => (aGo_s rfl).trans rfl, fun _ _ _ => (aGo_s rfl).trans rfl, fun _ _ _ => (aGo_s rfl).trans rfl, fun _ _ _ => (aGo_s rfl).trans rfl, fun _ _ _ => (aGo_s rfl).trans rfl, fun _ _ _ => (aGo_s rfl).trans rfl, fun _ _ _ => (aGo_s rfl).trans rfl, fun _ _ _ => (aGo_s rfl).trans rfl, fun _ _ _ => (aGo_s rfl).trans rfl, fun _ _ _ => (aGo_s rfl).trans rfl, fun _ _ _ => (aGo_s rfl).trans rfl, fun _ _ _ => (aGo_s rfl).trans rfl, fun _ _ _ => (aGo_s rfl).trans rfl, fun _ _ _ => (aGo_s rfl).trans rfl, fun _ _ _ => (aGo_s rfl).trans rfl, fun _ _ _ => (aGo_s rfl).trans rfl, fun _ _ _ => (aGo_s rfl).trans rfl, fun _ _ _ => (aGo_s rfl).trans rfl, fun _ _ _ => (aGo_s rfl).trans rfl, fun _ _ _ => (aGo_s rfl).trans rfl, fun _ _ _ => (aGo_s rfl).trans rfl, fun _ _ _ => (aGo_s rfl).trans rfl, fun _ _ _ => (aGo_s rfl).trans rfl, fun _ _ _ => (aGo_s rfl).trans rfl, fun _ _ _ => (aGo_s rfl).trans rfl, fun _ _ _ => (aGo_s rfl).trans rfl⟩
theorem s_209_115 {cl : Nat → List Value → aH → aRs} : ∀ ls st H, aGo cl none cd_209 0 115 ls st H = aILoad (fun st => aGo cl none cd_209 0 117 ls st H) ls 6 st := fun _ _ _ => (aGo_s rfl).trans rfl
theorem s_209_152 {cl : Nat → List Value → aH → aRs} : ∀ ls st H, aGo cl none cd_209 0 152 ls st H = aILoad (fun st => aGo cl none cd_209 0 154 ls st H) ls 6 st := fun _ _ _ => (aGo_s rfl).trans rfl
theorem e_209 {d : Nat} {x0 : Nat} {x1 : Int32} {x2 : Int32} {x3 : Int32} {x4 : Int32} {x5 : Int32} {H : aH} : aCall aMt (d + 1) 209 [.ref x0, .int x1, .int x2, .int x3, .int x4, .int x5] H = aGo (aCall aMt d) none cd_209 0 0 [some (.ref x0), some (.int x1), some (.int x2), some (.int x3), some (.int x4), some (.int x5), none] [] H := (c_0 rfl ⟨rfl, Nat.le_of_ble_eq_true rfl, Nat.le_of_ble_eq_true rfl⟩).trans rfl
theorem s_210 {cl : Nat → List Value → aH → aRs} : (∀ ls st H, aGo cl none cd_210 0 0 ls st H = aILoad (fun st => aGo cl none cd_210 0 1 ls st H) ls 1 st) ∧
  (∀ ls st H, aGo cl none cd_210 0 1 ls st H = aCallI (fun st H => aGo cl none cd_210 0 4 ls st H) cl 206 1 H st) ∧
  (∀ ls st H, aGo cl none cd_210 0 4 ls st H = aIf (fun p st => aGo cl none cd_210 0 p ls st H) .ne 11 7 st) ∧
  (∀ ls st H, aGo cl none cd_210 0 7 ls st H = aGo cl none cd_210 0 8 ls (.int 1 :: st) H) ∧
  (∀ ls st H, aGo cl none cd_210 0 8 ls st H = aGo cl none cd_210 0 25 ls st H) ∧
  (∀ ls st H, aGo cl none cd_210 0 11 ls st H = aRLoad (fun st => aGo cl none cd_210 0 12 ls st H) ls 0 st) ∧
  (∀ ls st H, aGo cl none cd_210 0 12 ls st H = aGet (fun st => aGo cl none cd_210 0 15 ls st H) 8 18 H st) ∧
  (∀ ls st H, aGo cl none cd_210 0 15 ls st H = aILoad (fun st => aGo cl none cd_210 0 16 ls st H) ls 1 st) ∧
  (∀ ls st H, aGo cl none cd_210 0 16 ls st H = aIald (fun st => aGo cl none cd_210 0 17 ls st H) none H st) ∧
  (∀ ls st H, aGo cl none cd_210 0 17 ls st H = aIf (fun p st => aGo cl none cd_210 0 p ls st H) .ne 24 20 st) ∧
  (∀ ls st H, aGo cl none cd_210 0 20 ls st H = aGo cl none cd_210 0 21 ls (.int 2 :: st) H) ∧
  (∀ ls st H, aGo cl none cd_210 0 21 ls st H = aGo cl none cd_210 0 25 ls st H) ∧
  (∀ ls st H, aGo cl none cd_210 0 24 ls st H = aGo cl none cd_210 0 25 ls (.int 0 :: st) H) ∧
  (∀ ls st H, aGo cl none cd_210 0 25 ls st H = aIret 0 st H) :=
  ⟨fun _ _ _ => (aGo_s rfl).trans rfl, fun _ _ _ => (aGo_s rfl).trans rfl, fun _ _ _ => (aGo_s rfl).trans rfl, fun _ _ _ => (aGo_s rfl).trans rfl, fun _ _ _ => (aGo_s rfl).trans rfl, fun _ _ _ => (aGo_s rfl).trans rfl, fun _ _ _ => (aGo_s rfl).trans rfl, fun _ _ _ => (aGo_s rfl).trans rfl, fun _ _ _ => (aGo_s rfl).trans rfl, fun _ _ _ => (aGo_s rfl).trans rfl, fun _ _ _ => (aGo_s rfl).trans rfl, fun _ _ _ => (aGo_s rfl).trans rfl, fun _ _ _ => (aGo_s rfl).trans rfl, fun _ _ _ => (aGo_s rfl).trans rfl⟩
theorem e_210 {d : Nat} {x0 : Nat} {x1 : Int32} {H : aH} : aCall aMt (d + 1) 210 [.ref x0, .int x1] H = aGo (aCall aMt d) none cd_210 0 0 [some (.ref x0), some (.int x1)] [] H := (c_0 rfl ⟨rfl, Nat.le_of_ble_eq_true rfl, Nat.le_of_ble_eq_true rfl⟩).trans rfl
theorem s_211 {cl : Nat → List Value → aH → aRs} : (∀ ls st H, aGo cl none cd_211 0 0 ls st H = aRLoad (fun st => aGo cl none cd_211 0 1 ls st H) ls 0 st) ∧
  (∀ ls st H, aGo cl none cd_211 0 1 ls st H = aILoad (fun st => aGo cl none cd_211 0 2 ls st H) ls 1 st) ∧
  (∀ ls st H, aGo cl none cd_211 0 2 ls st H = aCallV (fun st H => aGo cl none cd_211 0 5 ls st H) cl 210 1 8 H st) ∧
  (∀ ls st H, aGo cl none cd_211 0 5 ls st H = aIStore (fun ls st => aGo cl none cd_211 0 6 ls st H) ls 2 st) ∧
  (∀ ls st H, aGo cl none cd_211 0 6 ls st H = aILoad (fun st => aGo cl none cd_211 0 7 ls st H) ls 2 st) ∧
  (∀ ls st H, aGo cl none cd_211 0 7 ls st H = aIf (fun p st => aGo cl none cd_211 0 p ls st H) .eq 16 10 st) ∧
  (∀ ls st H, aGo cl none cd_211 0 10 ls st H = aRLoad (fun st => aGo cl none cd_211 0 11 ls st H) ls 0 st) ∧
  (∀ ls st H, aGo cl none cd_211 0 11 ls st H = aILoad (fun st => aGo cl none cd_211 0 12 ls st H) ls 2 st) ∧
  (∀ ls st H, aGo cl none cd_211 0 12 ls st H = aCallV (fun st H => aGo cl none cd_211 0 15 ls st H) cl 116 1 8 H st) ∧
  (∀ ls st H, aGo cl none cd_211 0 15 ls st H = aIret 0 st H) ∧
  (∀ ls st H, aGo cl none cd_211 0 16 ls st H = aGo cl none cd_211 0 17 ls (.int 0 :: st) H) ∧
  (∀ ls st H, aGo cl none cd_211 0 17 ls st H = aIStore (fun ls st => aGo cl none cd_211 0 18 ls st H) ls 3 st) ∧
  (∀ ls st H, aGo cl none cd_211 0 19 ls st H = aRLoad (fun st => aGo cl none cd_211 0 20 ls st H) ls 0 st) ∧
  (∀ ls st H, aGo cl none cd_211 0 20 ls st H = aGet (fun st => aGo cl none cd_211 0 23 ls st H) 8 19 H st) ∧
  (∀ ls st H, aGo cl none cd_211 0 23 ls st H = aILoad (fun st => aGo cl none cd_211 0 24 ls st H) ls 1 st) ∧
  (∀ ls st H, aGo cl none cd_211 0 24 ls st H = aIald (fun st => aGo cl none cd_211 0 25 ls st H) none H st) ∧
  (∀ ls st H, aGo cl none cd_211 0 25 ls st H = aIc (fun p st => aGo cl none cd_211 0 p ls st H) .ge 78 28 st) ∧
  (∀ ls st H, aGo cl none cd_211 0 28 ls st H = aRLoad (fun st => aGo cl none cd_211 0 29 ls st H) ls 0 st) ∧
  (∀ ls st H, aGo cl none cd_211 0 29 ls st H = aILoad (fun st => aGo cl none cd_211 0 30 ls st H) ls 3 st) ∧
  (∀ ls st H, aGo cl none cd_211 0 30 ls st H = aCallV (fun st H => aGo cl none cd_211 0 33 ls st H) cl 123 1 8 H st) ∧
  (∀ ls st H, aGo cl none cd_211 0 33 ls st H = aIf (fun p st => aGo cl none cd_211 0 p ls st H) .eq 78 36 st) ∧
  (∀ ls st H, aGo cl none cd_211 0 36 ls st H = aRLoad (fun st => aGo cl none cd_211 0 37 ls st H) ls 0 st) ∧
  (∀ ls st H, aGo cl none cd_211 0 37 ls st H = aGet (fun st => aGo cl none cd_211 0 40 ls st H) 8 20 H st) ∧
  (∀ ls st H, aGo cl none cd_211 0 40 ls st H = aGo cl none cd_211 0 42 ls (.int 24 :: st) H) ∧
  (∀ ls st H, aGo cl none cd_211 0 42 ls st H = aILoad (fun st => aGo cl none cd_211 0 43 ls st H) ls 1 st) ∧
  (∀ ls st H, aGo cl none cd_211 0 43 ls st H = aBin (fun st => aGo cl none cd_211 0 44 ls st H) (fun x y => x * y) st) ∧
  (∀ ls st H, aGo cl none cd_211 0 44 ls st H = aILoad (fun st => aGo cl none cd_211 0 45 ls st H) ls 3 st) ∧
  (∀ ls st H, aGo cl none cd_211 0 45 ls st H = aBin (fun st => aGo cl none cd_211 0 46 ls st H) (fun x y => x + y) st) ∧
  (∀ ls st H, aGo cl none cd_211 0 46 ls st H = aIald (fun st => aGo cl none cd_211 0 47 ls st H) none H st) ∧
  (∀ ls st H, aGo cl none cd_211 0 47 ls st H = aGo cl none cd_211 0 48 ls (.int 0 :: st) H) ∧
  (∀ ls st H, aGo cl none cd_211 0 48 ls st H = aGo cl none cd_211 0 49 ls (.int 2 :: st) H) ∧
  (∀ ls st H, aGo cl none cd_211 0 49 ls st H = aCallI (fun st H => aGo cl none cd_211 0 52 ls st H) cl 117 3 H st) ∧
  (∀ ls st H, aGo cl none cd_211 0 52 ls st H = aIf (fun p st => aGo cl none cd_211 0 p ls st H) .eq 78 55 st) ∧
  (∀ ls st H, aGo cl none cd_211 0 55 ls st H = aRLoad (fun st => aGo cl none cd_211 0 56 ls st H) ls 0 st) ∧
  (∀ ls st H, aGo cl none cd_211 0 56 ls st H = aILoad (fun st => aGo cl none cd_211 0 57 ls st H) ls 3 st) ∧
  (∀ ls st H, aGo cl none cd_211 0 57 ls st H = aGo cl none cd_211 0 58 ls (.int 1 :: st) H) ∧
  (∀ ls st H, aGo cl none cd_211 0 58 ls st H = aRLoad (fun st => aGo cl none cd_211 0 59 ls st H) ls 0 st) ∧
  (∀ ls st H, aGo cl none cd_211 0 59 ls st H = aGet (fun st => aGo cl none cd_211 0 62 ls st H) 8 20 H st) ∧
  (∀ ls st H, aGo cl none cd_211 0 62 ls st H = aGo cl none cd_211 0 64 ls (.int 24 :: st) H) ∧
  (∀ ls st H, aGo cl none cd_211 0 64 ls st H = aILoad (fun st => aGo cl none cd_211 0 65 ls st H) ls 1 st) ∧
  (∀ ls st H, aGo cl none cd_211 0 65 ls st H = aBin (fun st => aGo cl none cd_211 0 66 ls st H) (fun x y => x * y) st) ∧
  (∀ ls st H, aGo cl none cd_211 0 66 ls st H = aILoad (fun st => aGo cl none cd_211 0 67 ls st H) ls 3 st) ∧
  (∀ ls st H, aGo cl none cd_211 0 67 ls st H = aBin (fun st => aGo cl none cd_211 0 68 ls st H) (fun x y => x + y) st) ∧
  (∀ ls st H, aGo cl none cd_211 0 68 ls st H = aIald (fun st => aGo cl none cd_211 0 69 ls st H) none H st) ∧
  (∀ ls st H, aGo cl none cd_211 0 69 ls st H = aCallV (fun st H => aGo cl none cd_211 0 72 ls st H) cl 127 3 8 H st) ∧
  (∀ ls st H, aGo cl none cd_211 0 72 ls st H = aInc (fun ls => aGo cl none cd_211 0 75 ls st H) ls 3 1) ∧
  (∀ ls st H, aGo cl none cd_211 0 75 ls st H = aGo cl none cd_211 0 18 ls st H) ∧
  (∀ ls st H, aGo cl none cd_211 0 78 ls st H = aILoad (fun st => aGo cl none cd_211 0 79 ls st H) ls 3 st) ∧
  (∀ ls st H, aGo cl none cd_211 0 79 ls st H = aIret 0 st H) :=
  ⟨fun _ _ _ => (aGo_s rfl).trans rfl, fun _ _ _ => (aGo_s rfl).trans rfl, fun _ _ _ => (aGo_s rfl).trans rfl, fun _ _ _ => (aGo_s rfl).trans rfl, fun _ _ _ => (aGo_s rfl).trans rfl, fun _ _ _ => (aGo_s rfl).trans rfl, fun _ _ _ => (aGo_s rfl).trans rfl, fun _ _ _ => (aGo_s rfl).trans rfl, fun _ _ _ => (aGo_s rfl).trans rfl, fun _ _ _ => (aGo_s rfl).trans rfl, fun _ _ _ => (aGo_s rfl).trans rfl, fun _ _ _ => (aGo_s rfl).trans rfl, fun _ _ _ => (aGo_s rfl).trans rfl, fun _ _ _ => (aGo_s rfl).trans rfl, fun _ _ _ => (aGo_s rfl).trans rfl, fun _ _ _ => (aGo_s rfl).trans rfl, fun _ _ _ => (aGo_s rfl).trans rfl, fun _ _ _ => (aGo_s rfl).trans rfl, fun _ _ _ => (aGo_s rfl).trans rfl, fun _ _ _ => (aGo_s rfl).trans rfl, fun _ _ _ => (aGo_s rfl).trans rfl, fun _ _ _ => (aGo_s rfl).trans rfl, fun _ _ _ => (aGo_s rfl).trans rfl, fun _ _ _ => (aGo_s rfl).trans rfl, fun _ _ _ => (aGo_s rfl).trans rfl, fun _ _ _ => (aGo_s rfl).trans rfl, fun _ _ _ => (aGo_s rfl).trans rfl, fun _ _ _ => (aGo_s rfl).trans rfl, fun _ _ _ => (aGo_s rfl).trans rfl, fun _ _ _ => (aGo_s rfl).trans rfl, fun _ _ _ => (aGo_s rfl).trans rfl, fun _ _ _ => (aGo_s rfl).trans rfl, fun _ _ _ => (aGo_s rfl).trans rfl, fun _ _ _ => (aGo_s rfl).trans rfl, fun _ _ _ => (aGo_s rfl).trans rfl, fun _ _ _ => (aGo_s rfl).trans rfl, fun _ _ _ => (aGo_s rfl).trans rfl, fun _ _ _ => (aGo_s rfl).trans rfl, fun _ _ _ => (aGo_s rfl).trans rfl, fun _ _ _ => (aGo_s rfl).trans rfl, fun _ _ _ => (aGo_s rfl).trans rfl, fun _ _ _ => (aGo_s rfl).trans rfl, fun _ _ _ => (aGo_s rfl).trans rfl, fun _ _ _ => (aGo_s rfl).trans rfl, fun _ _ _ => (aGo_s rfl).trans rfl, fun _ _ _ => (aGo_s rfl).trans rfl, fun _ _ _ => (aGo_s rfl).trans rfl, fun _ _ _ => (aGo_s rfl).trans rfl, fun _ _ _ => (aGo_s rfl).trans rfl⟩
theorem s_211_18 {cl : Nat → List Value → aH → aRs} : ∀ ls st H, aGo cl none cd_211 0 18 ls st H = aILoad (fun st => aGo cl none cd_211 0 19 ls st H) ls 3 st := fun _ _ _ => (aGo_s rfl).trans rfl
theorem e_211 {d : Nat} {x0 : Nat} {x1 : Int32} {H : aH} : aCall aMt (d + 1) 211 [.ref x0, .int x1] H = aGo (aCall aMt d) none cd_211 0 0 [some (.ref x0), some (.int x1), none, none] [] H := (c_0 rfl ⟨rfl, Nat.le_of_ble_eq_true rfl, Nat.le_of_ble_eq_true rfl⟩).trans rfl
theorem s_212 {cl : Nat → List Value → aH → aRs} : (∀ ls st H, aGo cl none cd_212 0 0 ls st H = aRLoad (fun st => aGo cl none cd_212 0 1 ls st H) ls 0 st) ∧
  (∀ ls st H, aGo cl none cd_212 0 1 ls st H = aILoad (fun st => aGo cl none cd_212 0 2 ls st H) ls 1 st) ∧
  (∀ ls st H, aGo cl none cd_212 0 2 ls st H = aCallV (fun st H => aGo cl none cd_212 0 5 ls st H) cl 210 1 8 H st) ∧
  (∀ ls st H, aGo cl none cd_212 0 5 ls st H = aIStore (fun ls st => aGo cl none cd_212 0 6 ls st H) ls 2 st) ∧
  (∀ ls st H, aGo cl none cd_212 0 6 ls st H = aILoad (fun st => aGo cl none cd_212 0 7 ls st H) ls 2 st) ∧
  (∀ ls st H, aGo cl none cd_212 0 7 ls st H = aIf (fun p st => aGo cl none cd_212 0 p ls st H) .eq 16 10 st) ∧
  (∀ ls st H, aGo cl none cd_212 0 10 ls st H = aRLoad (fun st => aGo cl none cd_212 0 11 ls st H) ls 0 st) ∧
  (∀ ls st H, aGo cl none cd_212 0 11 ls st H = aILoad (fun st => aGo cl none cd_212 0 12 ls st H) ls 2 st) ∧
  (∀ ls st H, aGo cl none cd_212 0 12 ls st H = aCallV (fun st H => aGo cl none cd_212 0 15 ls st H) cl 116 1 8 H st) ∧
  (∀ ls st H, aGo cl none cd_212 0 15 ls st H = aIret 0 st H) ∧
  (∀ ls st H, aGo cl none cd_212 0 16 ls st H = aRLoad (fun st => aGo cl none cd_212 0 17 ls st H) ls 0 st) ∧
  (∀ ls st H, aGo cl none cd_212 0 17 ls st H = aCallV (fun st H => aGo cl none cd_212 0 20 ls st H) cl 120 0 8 H st) ∧
  (∀ ls st H, aGo cl none cd_212 0 20 ls st H = aGo cl none cd_212 0 21 ls (.int 0 :: st) H) ∧
  (∀ ls st H, aGo cl none cd_212 0 21 ls st H = aIStore (fun ls st => aGo cl none cd_212 0 22 ls st H) ls 3 st) ∧
  (∀ ls st H, aGo cl none cd_212 0 22 ls st H = aGo cl none cd_212 0 23 ls (.int 1 :: st) H) ∧
  (∀ ls st H, aGo cl none cd_212 0 23 ls st H = aIStore (fun ls st => aGo cl none cd_212 0 25 ls st H) ls 4 st) ∧
  (∀ ls st H, aGo cl none cd_212 0 25 ls st H = aGo cl none cd_212 0 26 ls (.int 0 :: st) H) ∧
  (∀ ls st H, aGo cl none cd_212 0 26 ls st H = aIStore (fun ls st => aGo cl none cd_212 0 28 ls st H) ls 5 st) ∧
  (∀ ls st H, aGo cl none cd_212 0 30 ls st H = aRLoad (fun st => aGo cl none cd_212 0 31 ls st H) ls 0 st) ∧
  (∀ ls st H, aGo cl none cd_212 0 31 ls st H = aGet (fun st => aGo cl none cd_212 0 34 ls st H) 8 19 H st) ∧
  (∀ ls st H, aGo cl none cd_212 0 34 ls st H = aILoad (fun st => aGo cl none cd_212 0 35 ls st H) ls 1 st) ∧
  (∀ ls st H, aGo cl none cd_212 0 35 ls st H = aIald (fun st => aGo cl none cd_212 0 36 ls st H) none H st) ∧
  (∀ ls st H, aGo cl none cd_212 0 36 ls st H = aIc (fun p st => aGo cl none cd_212 0 p ls st H) .ge 89 39 st) ∧
  (∀ ls st H, aGo cl none cd_212 0 39 ls st H = aILoad (fun st => aGo cl none cd_212 0 41 ls st H) ls 4 st) ∧
  (∀ ls st H, aGo cl none cd_212 0 41 ls st H = aIf (fun p st => aGo cl none cd_212 0 p ls st H) .eq 89 44 st) ∧
  (∀ ls st H, aGo cl none cd_212 0 44 ls st H = aRLoad (fun st => aGo cl none cd_212 0 45 ls st H) ls 0 st) ∧
  (∀ ls st H, aGo cl none cd_212 0 45 ls st H = aCallV (fun st H => aGo cl none cd_212 0 48 ls st H) cl 162 0 8 H st) ∧
  (∀ ls st H, aGo cl none cd_212 0 48 ls st H = aRLoad (fun st => aGo cl none cd_212 0 49 ls st H) ls 0 st) ∧
  (∀ ls st H, aGo cl none cd_212 0 49 ls st H = aGet (fun st => aGo cl none cd_212 0 52 ls st H) 8 20 H st) ∧
  (∀ ls st H, aGo cl none cd_212 0 52 ls st H = aGo cl none cd_212 0 54 ls (.int 24 :: st) H) ∧
  (∀ ls st H, aGo cl none cd_212 0 54 ls st H = aILoad (fun st => aGo cl none cd_212 0 55 ls st H) ls 1 st) ∧
  (∀ ls st H, aGo cl none cd_212 0 55 ls st H = aBin (fun st => aGo cl none cd_212 0 56 ls st H) (fun x y => x * y) st) ∧
  (∀ ls st H, aGo cl none cd_212 0 56 ls st H = aILoad (fun st => aGo cl none cd_212 0 58 ls st H) ls 5 st) ∧
  (∀ ls st H, aGo cl none cd_212 0 58 ls st H = aBin (fun st => aGo cl none cd_212 0 59 ls st H) (fun x y => x + y) st) ∧
  (∀ ls st H, aGo cl none cd_212 0 59 ls st H = aIald (fun st => aGo cl none cd_212 0 60 ls st H) none H st) ∧
  (∀ ls st H, aGo cl none cd_212 0 60 ls st H = aIc (fun p st => aGo cl none cd_212 0 p ls st H) .ne 67 63 st) ∧
  (∀ ls st H, aGo cl none cd_212 0 63 ls st H = aGo cl none cd_212 0 64 ls (.int 1 :: st) H) ∧
  (∀ ls st H, aGo cl none cd_212 0 64 ls st H = aGo cl none cd_212 0 68 ls st H) ∧
  (∀ ls st H, aGo cl none cd_212 0 67 ls st H = aGo cl none cd_212 0 68 ls (.int 0 :: st) H) ∧
  (∀ ls st H, aGo cl none cd_212 0 68 ls st H = aIStore (fun ls st => aGo cl none cd_212 0 70 ls st H) ls 4 st) ∧
  (∀ ls st H, aGo cl none cd_212 0 70 ls st H = aILoad (fun st => aGo cl none cd_212 0 71 ls st H) ls 3 st) ∧
  (∀ ls st H, aGo cl none cd_212 0 71 ls st H = aILoad (fun st => aGo cl none cd_212 0 73 ls st H) ls 4 st) ∧
  (∀ ls st H, aGo cl none cd_212 0 73 ls st H = aIf (fun p st => aGo cl none cd_212 0 p ls st H) .eq 80 76 st) ∧
  (∀ ls st H, aGo cl none cd_212 0 76 ls st H = aGo cl none cd_212 0 77 ls (.int 1 :: st) H) ∧
  (∀ ls st H, aGo cl none cd_212 0 77 ls st H = aGo cl none cd_212 0 81 ls st H) ∧
  (∀ ls st H, aGo cl none cd_212 0 80 ls st H = aGo cl none cd_212 0 81 ls (.int 0 :: st) H) ∧
  (∀ ls st H, aGo cl none cd_212 0 81 ls st H = aBin (fun st => aGo cl none cd_212 0 82 ls st H) (fun x y => x + y) st) ∧
  (∀ ls st H, aGo cl none cd_212 0 82 ls st H = aIStore (fun ls st => aGo cl none cd_212 0 83 ls st H) ls 3 st) ∧
  (∀ ls st H, aGo cl none cd_212 0 83 ls st H = aInc (fun ls => aGo cl none cd_212 0 86 ls st H) ls 5 1) ∧
  (∀ ls st H, aGo cl none cd_212 0 86 ls st H = aGo cl none cd_212 0 28 ls st H) ∧
  (∀ ls st H, aGo cl none cd_212 0 89 ls st H = aRLoad (fun st => aGo cl none cd_212 0 90 ls st H) ls 0 st) ∧
  (∀ ls st H, aGo cl none cd_212 0 90 ls st H = aCallV (fun st H => aGo cl none cd_212 0 93 ls st H) cl 121 0 8 H st) ∧
  (∀ ls st H, aGo cl none cd_212 0 93 ls st H = aILoad (fun st => aGo cl none cd_212 0 94 ls st H) ls 3 st) ∧
  (∀ ls st H, aGo cl none cd_212 0 94 ls st H = aIret 0 st H) :=
  ⟨fun _ _ _ => (aGo_s rfl).trans rfl, fun _ _ _ => (aGo_s rfl).trans rfl, fun _ _ _ => (aGo_s rfl).trans rfl, fun _ _ _ => (aGo_s rfl).trans rfl, fun _ _ _ => (aGo_s rfl).trans rfl, fun _ _ _ => (aGo_s rfl).trans rfl, fun _ _ _ => (aGo_s rfl).trans rfl, fun _ _ _ => (aGo_s rfl).trans rfl, fun _ _ _ => (aGo_s rfl).trans rfl, fun _ _ _ => (aGo_s rfl).trans rfl, fun _ _ _ => (aGo_s rfl).trans rfl, fun _ _ _ => (aGo_s rfl).trans rfl, fun _ _ _ => (aGo_s rfl).trans rfl, fun _ _ _ => (aGo_s rfl).trans rfl, fun _ _ _ => (aGo_s rfl).trans rfl, fun _ _ _ => (aGo_s rfl).trans rfl, fun _ _ _ => (aGo_s rfl).trans rfl, fun _ _ _ => (aGo_s rfl).trans rfl, fun _ _ _ => (aGo_s rfl).trans rfl, fun _ _ _ => (aGo_s rfl).trans rfl, fun _ _ _ => (aGo_s rfl).trans rfl, fun _ _ _ => (aGo_s rfl).trans rfl, fun _ _ _ => (aGo_s rfl).trans rfl, fun _ _ _ => (aGo_s rfl).trans rfl, fun _ _ _ => (aGo_s rfl).trans rfl, fun _ _ _ => (aGo_s rfl).trans rfl, fun _ _ _ => (aGo_s rfl).trans rfl, fun _ _ _ => (aGo_s rfl).trans rfl, fun _ _ _ => (aGo_s rfl).trans rfl, fun _ _ _ => (aGo_s rfl).trans rfl, fun _ _ _ => (aGo_s rfl).trans rfl, fun _ _ _ => (aGo_s rfl).trans rfl, fun _ _ _ => (aGo_s rfl).trans rfl, fun _ _ _ => (aGo_s rfl).trans rfl, fun _ _ _ => (aGo_s rfl).trans rfl, fun _ _ _ => (aGo_s rfl).trans rfl, fun _ _ _ => (aGo_s rfl).trans rfl, fun _ _ _ => (aGo_s rfl).trans rfl, fun _ _ _ => (aGo_s rfl).trans rfl, fun _ _ _ => (aGo_s rfl).trans rfl, fun _ _ _ => (aGo_s rfl).trans rfl, fun _ _ _ => (aGo_s rfl).trans rfl, fun _ _ _ => (aGo_s rfl).trans rfl, fun _ _ _ => (aGo_s rfl).trans rfl, fun _ _ _ => (aGo_s rfl).trans rfl, fun _ _ _ => (aGo_s rfl).trans rfl, fun _ _ _ => (aGo_s rfl).trans rfl, fun _ _ _ => (aGo_s rfl).trans rfl, fun _ _ _ => (aGo_s rfl).trans rfl, fun _ _ _ => (aGo_s rfl).trans rfl, fun _ _ _ => (aGo_s rfl).trans rfl, fun _ _ _ => (aGo_s rfl).trans rfl, fun _ _ _ => (aGo_s rfl).trans rfl, fun _ _ _ => (aGo_s rfl).trans rfl⟩
theorem s_212_28 {cl : Nat → List Value → aH → aRs} : ∀ ls st H, aGo cl none cd_212 0 28 ls st H = aILoad (fun st => aGo cl none cd_212 0 30 ls st H) ls 5 st := fun _ _ _ => (aGo_s rfl).trans rfl
theorem e_212 {d : Nat} {x0 : Nat} {x1 : Int32} {H : aH} : aCall aMt (d + 1) 212 [.ref x0, .int x1] H = aGo (aCall aMt d) none cd_212 0 0 [some (.ref x0), some (.int x1), none, none, none, none] [] H := (c_0 rfl ⟨rfl, Nat.le_of_ble_eq_true rfl, Nat.le_of_ble_eq_true rfl⟩).trans rfl
theorem s_213 {cl : Nat → List Value → aH → aRs} : (∀ ls st H, aGo cl none cd_213 0 0 ls st H = aRLoad (fun st => aGo cl none cd_213 0 1 ls st H) ls 0 st) ∧
  (∀ ls st H, aGo cl none cd_213 0 1 ls st H = aGet (fun st => aGo cl none cd_213 0 4 ls st H) 8 0 H st) ∧
  (∀ ls st H, aGo cl none cd_213 0 4 ls st H = aRLoad (fun st => aGo cl none cd_213 0 5 ls st H) ls 0 st) ∧
  (∀ ls st H, aGo cl none cd_213 0 5 ls st H = aGet (fun st => aGo cl none cd_213 0 8 ls st H) 8 1 H st) ∧
  (∀ ls st H, aGo cl none cd_213 0 8 ls st H = aCallI (fun st H => aGo cl none cd_213 0 11 ls st H) cl 119 2 H st) ∧
  (∀ ls st H, aGo cl none cd_213 0 11 ls st H = aRLoad (fun st => aGo cl none cd_213 0 12 ls st H) ls 0 st) ∧
  (∀ ls st H, aGo cl none cd_213 0 12 ls st H = aDup (fun st => aGo cl none cd_213 0 13 ls st H) st) ∧
  (∀ ls st H, aGo cl none cd_213 0 13 ls st H = aGet (fun st => aGo cl none cd_213 0 16 ls st H) 8 3 H st) ∧
  (∀ ls st H, aGo cl none cd_213 0 16 ls st H = aGo cl none cd_213 0 17 ls (.int 1 :: st) H) ∧
  (∀ ls st H, aGo cl none cd_213 0 17 ls st H = aBin (fun st => aGo cl none cd_213 0 18 ls st H) (fun x y => x + y) st) ∧
  (∀ ls st H, aGo cl none cd_213 0 18 ls st H = aPut (fun st H => aGo cl none cd_213 0 21 ls st H) 8 3 H st) ∧
  (∀ ls st H, aGo cl none cd_213 0 21 ls st H = aRLoad (fun st => aGo cl none cd_213 0 22 ls st H) ls 0 st) ∧
  (∀ ls st H, aGo cl none cd_213 0 22 ls st H = aGet (fun st => aGo cl none cd_213 0 25 ls st H) 8 3 H st) ∧
  (∀ ls st H, aGo cl none cd_213 0 25 ls st H = aIret 0 st H) :=
  ⟨fun _ _ _ => (aGo_s rfl).trans rfl, fun _ _ _ => (aGo_s rfl).trans rfl, fun _ _ _ => (aGo_s rfl).trans rfl, fun _ _ _ => (aGo_s rfl).trans rfl, fun _ _ _ => (aGo_s rfl).trans rfl, fun _ _ _ => (aGo_s rfl).trans rfl, fun _ _ _ => (aGo_s rfl).trans rfl, fun _ _ _ => (aGo_s rfl).trans rfl, fun _ _ _ => (aGo_s rfl).trans rfl, fun _ _ _ => (aGo_s rfl).trans rfl, fun _ _ _ => (aGo_s rfl).trans rfl, fun _ _ _ => (aGo_s rfl).trans rfl, fun _ _ _ => (aGo_s rfl).trans rfl, fun _ _ _ => (aGo_s rfl).trans rfl⟩
theorem e_213 {d : Nat} {x0 : Nat} {H : aH} : aCall aMt (d + 1) 213 [.ref x0] H = aGo (aCall aMt d) none cd_213 0 0 [some (.ref x0)] [] H := (c_0 rfl ⟨rfl, Nat.le_of_ble_eq_true rfl, Nat.le_of_ble_eq_true rfl⟩).trans rfl
theorem s_214 {cl : Nat → List Value → aH → aRs} : (∀ ls st H, aGo cl none cd_214 0 0 ls st H = aRLoad (fun st => aGo cl none cd_214 0 1 ls st H) ls 0 st) ∧
  (∀ ls st H, aGo cl none cd_214 0 1 ls st H = aGet (fun st => aGo cl none cd_214 0 4 ls st H) 8 3 H st) ∧
  (∀ ls st H, aGo cl none cd_214 0 4 ls st H = aIf (fun p st => aGo cl none cd_214 0 p ls st H) .ne 13 7 st) ∧
  (∀ ls st H, aGo cl none cd_214 0 7 ls st H = aRLoad (fun st => aGo cl none cd_214 0 8 ls st H) ls 0 st) ∧
  (∀ ls st H, aGo cl none cd_214 0 8 ls st H = aGo cl none cd_214 0 9 ls (.int 2 :: st) H) ∧
  (∀ ls st H, aGo cl none cd_214 0 9 ls st H = aCallV (fun st H => aGo cl none cd_214 0 12 ls st H) cl 116 1 8 H st) ∧
  (∀ ls st H, aGo cl none cd_214 0 12 ls st H = aIret 0 st H) ∧
  (∀ ls st H, aGo cl none cd_214 0 13 ls st H = aRLoad (fun st => aGo cl none cd_214 0 14 ls st H) ls 0 st) ∧
  (∀ ls st H, aGo cl none cd_214 0 14 ls st H = aGet (fun st => aGo cl none cd_214 0 17 ls st H) 8 1 H st) ∧
  (∀ ls st H, aGo cl none cd_214 0 17 ls st H = aRLoad (fun st => aGo cl none cd_214 0 18 ls st H) ls 0 st) ∧
  (∀ ls st H, aGo cl none cd_214 0 18 ls st H = aGet (fun st => aGo cl none cd_214 0 21 ls st H) 8 0 H st) ∧
  (∀ ls st H, aGo cl none cd_214 0 21 ls st H = aCallI (fun st H => aGo cl none cd_214 0 24 ls st H) cl 119 2 H st) ∧
  (∀ ls st H, aGo cl none cd_214 0 24 ls st H = aRLoad (fun st => aGo cl none cd_214 0 25 ls st H) ls 0 st) ∧
  (∀ ls st H, aGo cl none cd_214 0 25 ls st H = aGet (fun st => aGo cl none cd_214 0 28 ls st H) 8 0 H st) ∧
  (∀ ls st H, aGo cl none cd_214 0 28 ls st H = aGo cl none cd_214 0 29 ls (.int 0 :: st) H) ∧
  (∀ ls st H, aGo cl none cd_214 0 29 ls st H = aIald (fun st => aGo cl none cd_214 0 30 ls st H) none H st) ∧
  (∀ ls st H, aGo cl none cd_214 0 30 ls st H = aIret 0 st H) :=
  ⟨fun _ _ _ => (aGo_s rfl).trans rfl, fun _ _ _ => (aGo_s rfl).trans rfl, fun _ _ _ => (aGo_s rfl).trans rfl, fun _ _ _ => (aGo_s rfl).trans rfl, fun _ _ _ => (aGo_s rfl).trans rfl, fun _ _ _ => (aGo_s rfl).trans rfl, fun _ _ _ => (aGo_s rfl).trans rfl, fun _ _ _ => (aGo_s rfl).trans rfl, fun _ _ _ => (aGo_s rfl).trans rfl, fun _ _ _ => (aGo_s rfl).trans rfl, fun _ _ _ => (aGo_s rfl).trans rfl, fun _ _ _ => (aGo_s rfl).trans rfl, fun _ _ _ => (aGo_s rfl).trans rfl, fun _ _ _ => (aGo_s rfl).trans rfl, fun _ _ _ => (aGo_s rfl).trans rfl, fun _ _ _ => (aGo_s rfl).trans rfl, fun _ _ _ => (aGo_s rfl).trans rfl⟩
theorem e_214 {d : Nat} {x0 : Nat} {H : aH} : aCall aMt (d + 1) 214 [.ref x0] H = aGo (aCall aMt d) none cd_214 0 0 [some (.ref x0)] [] H := (c_0 rfl ⟨rfl, Nat.le_of_ble_eq_true rfl, Nat.le_of_ble_eq_true rfl⟩).trans rfl
theorem s_215 {cl : Nat → List Value → aH → aRs} : (∀ ls st H, aGo cl none cd_215 0 0 ls st H = aRLoad (fun st => aGo cl none cd_215 0 1 ls st H) ls 0 st) ∧
  (∀ ls st H, aGo cl none cd_215 0 1 ls st H = aGet (fun st => aGo cl none cd_215 0 4 ls st H) 8 0 H st) ∧
  (∀ ls st H, aGo cl none cd_215 0 4 ls st H = aGo cl none cd_215 0 6 ls (.int 6 :: st) H) ∧
  (∀ ls st H, aGo cl none cd_215 0 6 ls st H = aIald (fun st => aGo cl none cd_215 0 7 ls st H) none H st) ∧
  (∀ ls st H, aGo cl none cd_215 0 7 ls st H = aGo cl none cd_215 0 9 ls (.int 24 :: st) H) ∧
  (∀ ls st H, aGo cl none cd_215 0 9 ls st H = aIc (fun p st => aGo cl none cd_215 0 p ls st H) .ne 18 12 st) ∧
  (∀ ls st H, aGo cl none cd_215 0 12 ls st H = aRLoad (fun st => aGo cl none cd_215 0 13 ls st H) ls 0 st) ∧
  (∀ ls st H, aGo cl none cd_215 0 13 ls st H = aGo cl none cd_215 0 14 ls (.int 4 :: st) H) ∧
  (∀ ls st H, aGo cl none cd_215 0 14 ls st H = aCallV (fun st H => aGo cl none cd_215 0 17 ls st H) cl 116 1 8 H st) ∧
  (∀ ls st H, aGo cl none cd_215 0 17 ls st H = aIret 0 st H) ∧
  (∀ ls st H, aGo cl none cd_215 0 18 ls st H = aRLoad (fun st => aGo cl none cd_215 0 19 ls st H) ls 0 st) ∧
  (∀ ls st H, aGo cl none cd_215 0 19 ls st H = aGet (fun st => aGo cl none cd_215 0 22 ls st H) 8 0 H st) ∧
  (∀ ls st H, aGo cl none cd_215 0 22 ls st H = aGo cl none cd_215 0 25 ls (.int 430 :: st) H) ∧
  (∀ ls st H, aGo cl none cd_215 0 25 ls st H = aRLoad (fun st => aGo cl none cd_215 0 26 ls st H) ls 0 st) ∧
  (∀ ls st H, aGo cl none cd_215 0 26 ls st H = aGet (fun st => aGo cl none cd_215 0 29 ls st H) 8 0 H st) ∧
  (∀ ls st H, aGo cl none cd_215 0 29 ls st H = aGo cl none cd_215 0 31 ls (.int 6 :: st) H) ∧
  (∀ ls st H, aGo cl none cd_215 0 31 ls st H = aIald (fun st => aGo cl none cd_215 0 32 ls st H) none H st) ∧
  (∀ ls st H, aGo cl none cd_215 0 32 ls st H = aBin (fun st => aGo cl none cd_215 0 33 ls st H) (fun x y => x + y) st) ∧
  (∀ ls st H, aGo cl none cd_215 0 33 ls st H = aILoad (fun st => aGo cl none cd_215 0 34 ls st H) ls 1 st) ∧
  (∀ ls st H, aGo cl none cd_215 0 34 ls st H = aIast (fun st H => aGo cl none cd_215 0 35 ls st H) H st) ∧
  (∀ ls st H, aGo cl none cd_215 0 35 ls st H = aRLoad (fun st => aGo cl none cd_215 0 36 ls st H) ls 0 st) ∧
  (∀ ls st H, aGo cl none cd_215 0 36 ls st H = aGet (fun st => aGo cl none cd_215 0 39 ls st H) 8 0 H st) ∧
  (∀ ls st H, aGo cl none cd_215 0 39 ls st H = aGo cl none cd_215 0 41 ls (.int 6 :: st) H) ∧
  (∀ ls st H, aGo cl none cd_215 0 41 ls st H = aDup2 (fun st => aGo cl none cd_215 0 42 ls st H) st) ∧
  (∀ ls st H, aGo cl none cd_215 0 42 ls st H = aIald (fun st => aGo cl none cd_215 0 43 ls st H) none H st) ∧
  (∀ ls st H, aGo cl none cd_215 0 43 ls st H = aGo cl none cd_215 0 44 ls (.int 1 :: st) H) ∧
  (∀ ls st H, aGo cl none cd_215 0 44 ls st H = aBin (fun st => aGo cl none cd_215 0 45 ls st H) (fun x y => x + y) st) ∧
  (∀ ls st H, aGo cl none cd_215 0 45 ls st H = aIast (fun st H => aGo cl none cd_215 0 46 ls st H) H st) ∧
  (∀ ls st H, aGo cl none cd_215 0 46 ls st H = aRLoad (fun st => aGo cl none cd_215 0 47 ls st H) ls 0 st) ∧
  (∀ ls st H, aGo cl none cd_215 0 47 ls st H = aGet (fun st => aGo cl none cd_215 0 50 ls st H) 8 0 H st) ∧
  (∀ ls st H, aGo cl none cd_215 0 50 ls st H = aGo cl none cd_215 0 52 ls (.int 6 :: st) H) ∧
  (∀ ls st H, aGo cl none cd_215 0 52 ls st H = aIald (fun st => aGo cl none cd_215 0 53 ls st H) none H st) ∧
  (∀ ls st H, aGo cl none cd_215 0 53 ls st H = aIret 0 st H) :=
  ⟨fun _ _ _ => (aGo_s rfl).trans rfl, fun _ _ _ => (aGo_s rfl).trans rfl, fun _ _ _ => (aGo_s rfl).trans rfl, fun _ _ _ => (aGo_s rfl).trans rfl, fun _ _ _ => (aGo_s rfl).trans rfl, fun _ _ _ => (aGo_s rfl).trans rfl, fun _ _ _ => (aGo_s rfl).trans rfl, fun _ _ _ => (aGo_s rfl).trans rfl, fun _ _ _ => (aGo_s rfl).trans rfl, fun _ _ _ => (aGo_s rfl).trans rfl, fun _ _ _ => (aGo_s rfl).trans rfl, fun _ _ _ => (aGo_s rfl).trans rfl, fun _ _ _ => (aGo_s rfl).trans rfl, fun _ _ _ => (aGo_s rfl).trans rfl, fun _ _ _ => (aGo_s rfl).trans rfl, fun _ _ _ => (aGo_s rfl).trans rfl, fun _ _ _ => (aGo_s rfl).trans rfl, fun _ _ _ => (aGo_s rfl).trans rfl, fun _ _ _ => (aGo_s rfl).trans rfl, fun _ _ _ => (aGo_s rfl).trans rfl, fun _ _ _ => (aGo_s rfl).trans rfl, fun _ _ _ => (aGo_s rfl).trans rfl, fun _ _ _ => (aGo_s rfl).trans rfl, fun _ _ _ => (aGo_s rfl).trans rfl, fun _ _ _ => (aGo_s rfl).trans rfl, fun _ _ _ => (aGo_s rfl).trans rfl, fun _ _ _ => (aGo_s rfl).trans rfl, fun _ _ _ => (aGo_s rfl).trans rfl, fun _ _ _ => (aGo_s rfl).trans rfl, fun _ _ _ => (aGo_s rfl).trans rfl, fun _ _ _ => (aGo_s rfl).trans rfl, fun _ _ _ => (aGo_s rfl).trans rfl, fun _ _ _ => (aGo_s rfl).trans rfl⟩
theorem e_215 {d : Nat} {x0 : Nat} {x1 : Int32} {H : aH} : aCall aMt (d + 1) 215 [.ref x0, .int x1] H = aGo (aCall aMt d) none cd_215 0 0 [some (.ref x0), some (.int x1)] [] H := (c_0 rfl ⟨rfl, Nat.le_of_ble_eq_true rfl, Nat.le_of_ble_eq_true rfl⟩).trans rfl
theorem s_216 {cl : Nat → List Value → aH → aRs} : (∀ ls st H, aGo cl none cd_216 0 0 ls st H = aRLoad (fun st => aGo cl none cd_216 0 1 ls st H) ls 0 st) ∧
  (∀ ls st H, aGo cl none cd_216 0 1 ls st H = aGet (fun st => aGo cl none cd_216 0 4 ls st H) 8 0 H st) ∧
  (∀ ls st H, aGo cl none cd_216 0 4 ls st H = aGo cl none cd_216 0 6 ls (.int 6 :: st) H) ∧
  (∀ ls st H, aGo cl none cd_216 0 6 ls st H = aIald (fun st => aGo cl none cd_216 0 7 ls st H) none H st) ∧
  (∀ ls st H, aGo cl none cd_216 0 7 ls st H = aIStore (fun ls st => aGo cl none cd_216 0 8 ls st H) ls 1 st) ∧
  (∀ ls st H, aGo cl none cd_216 0 8 ls st H = aRLoad (fun st => aGo cl none cd_216 0 9 ls st H) ls 0 st) ∧
  (∀ ls st H, aGo cl none cd_216 0 9 ls st H = aGet (fun st => aGo cl none cd_216 0 12 ls st H) 8 0 H st) ∧
  (∀ ls st H, aGo cl none cd_216 0 12 ls st H = aGo cl none cd_216 0 14 ls (.int 6 :: st) H) ∧
  (∀ ls st H, aGo cl none cd_216 0 14 ls st H = aGo cl none cd_216 0 15 ls (.int 0 :: st) H) ∧
  (∀ ls st H, aGo cl none cd_216 0 15 ls st H = aIast (fun st H => aGo cl none cd_216 0 16 ls st H) H st) ∧
  (∀ ls st H, aGo cl none cd_216 0 16 ls st H = aGo cl none cd_216 0 17 ls (.int 0 :: st) H) ∧
  (∀ ls st H, aGo cl none cd_216 0 17 ls st H = aIStore (fun ls st => aGo cl none cd_216 0 18 ls st H) ls 2 st) ∧
  (∀ ls st H, aGo cl none cd_216 0 19 ls st H = aILoad (fun st => aGo cl none cd_216 0 20 ls st H) ls 1 st) ∧
  (∀ ls st H, aGo cl none cd_216 0 20 ls st H = aIc (fun p st => aGo cl none cd_216 0 p ls st H) .ge 60 23 st) ∧
  (∀ ls st H, aGo cl none cd_216 0 23 ls st H = aRLoad (fun st => aGo cl none cd_216 0 24 ls st H) ls 0 st) ∧
  (∀ ls st H, aGo cl none cd_216 0 24 ls st H = aILoad (fun st => aGo cl none cd_216 0 25 ls st H) ls 2 st) ∧
  (∀ ls st H, aGo cl none cd_216 0 25 ls st H = aCallV (fun st H => aGo cl none cd_216 0 28 ls st H) cl 122 1 8 H st) ∧
  (∀ ls st H, aGo cl none cd_216 0 28 ls st H = aIf (fun p st => aGo cl none cd_216 0 p ls st H) .eq 50 31 st) ∧
  (∀ ls st H, aGo cl none cd_216 0 31 ls st H = aRLoad (fun st => aGo cl none cd_216 0 32 ls st H) ls 0 st) ∧
  (∀ ls st H, aGo cl none cd_216 0 32 ls st H = aGet (fun st => aGo cl none cd_216 0 35 ls st H) 8 0 H st) ∧
  (∀ ls st H, aGo cl none cd_216 0 35 ls st H = aGo cl none cd_216 0 38 ls (.int 430 :: st) H) ∧
  (∀ ls st H, aGo cl none cd_216 0 38 ls st H = aILoad (fun st => aGo cl none cd_216 0 39 ls st H) ls 2 st) ∧
  (∀ ls st H, aGo cl none cd_216 0 39 ls st H = aBin (fun st => aGo cl none cd_216 0 40 ls st H) (fun x y => x + y) st) ∧
  (∀ ls st H, aGo cl none cd_216 0 40 ls st H = aIald (fun st => aGo cl none cd_216 0 41 ls st H) none H st) ∧
  (∀ ls st H, aGo cl none cd_216 0 41 ls st H = aRLoad (fun st => aGo cl none cd_216 0 42 ls st H) ls 0 st) ∧
  (∀ ls st H, aGo cl none cd_216 0 42 ls st H = aILoad (fun st => aGo cl none cd_216 0 43 ls st H) ls 2 st) ∧
  (∀ ls st H, aGo cl none cd_216 0 43 ls st H = aGo cl none cd_216 0 44 ls (.int 2 :: st) H) ∧
  (∀ ls st H, aGo cl none cd_216 0 44 ls st H = aCallV (fun st H => aGo cl none cd_216 0 47 ls st H) cl 124 2 8 H st) ∧
  (∀ ls st H, aGo cl none cd_216 0 47 ls st H = aIc (fun p st => aGo cl none cd_216 0 p ls st H) .eq 54 50 st) ∧
  (∀ ls st H, aGo cl none cd_216 0 50 ls st H = aGo cl none cd_216 0 51 ls (.int 1 :: st) H) ∧
  (∀ ls st H, aGo cl none cd_216 0 51 ls st H = aILoad (fun st => aGo cl none cd_216 0 52 ls st H) ls 2 st) ∧
  (∀ ls st H, aGo cl none cd_216 0 52 ls st H = aBin (fun st => aGo cl none cd_216 0 53 ls st H) (fun x y => x + y) st) ∧
  (∀ ls st H, aGo cl none cd_216 0 53 ls st H = aIret 0 st H) ∧
  (∀ ls st H, aGo cl none cd_216 0 54 ls st H = aInc (fun ls => aGo cl none cd_216 0 57 ls st H) ls 2 1) ∧
  (∀ ls st H, aGo cl none cd_216 0 57 ls st H = aGo cl none cd_216 0 18 ls st H) ∧
  (∀ ls st H, aGo cl none cd_216 0 60 ls st H = aGo cl none cd_216 0 61 ls (.int 0 :: st) H) ∧
  (∀ ls st H, aGo cl none cd_216 0 61 ls st H = aIret 0 st H) :=
  ⟨fun _ _ _ => (aGo_s rfl).trans rfl, fun _ _ _ => (aGo_s rfl).trans rfl, fun _ _ _ => (aGo_s rfl).trans rfl, fun _ _ _ => (aGo_s rfl).trans rfl, fun _ _ _ => (aGo_s rfl).trans rfl, fun _ _ _ => (aGo_s rfl).trans rfl, fun _ _ _ => (aGo_s rfl).trans rfl, fun _ _ _ => (aGo_s rfl).trans rfl, fun _ _ _ => (aGo_s rfl).trans rfl, fun _ _ _ => (aGo_s rfl).trans rfl, fun _ _ _ => (aGo_s rfl).trans rfl, fun _ _ _ => (aGo_s rfl).trans rfl, fun _ _ _ => (aGo_s rfl).trans rfl, fun _ _ _ => (aGo_s rfl).trans rfl, fun _ _ _ => (aGo_s rfl).trans rfl, fun _ _ _ => (aGo_s rfl).trans rfl, fun _ _ _ => (aGo_s rfl).trans rfl, fun _ _ _ => (aGo_s rfl).trans rfl, fun _ _ _ => (aGo_s rfl).trans rfl, fun _ _ _ => (aGo_s rfl).trans rfl, fun _ _ _ => (aGo_s rfl).trans rfl, fun _ _ _ => (aGo_s rfl).trans rfl, fun _ _ _ => (aGo_s rfl).trans rfl, fun _ _ _ => (aGo_s rfl).trans rfl, fun _ _ _ => (aGo_s rfl).trans rfl, fun _ _ _ => (aGo_s rfl).trans rfl, fun _ _ _ => (aGo_s rfl).trans rfl, fun _ _ _ => (aGo_s rfl).trans rfl, fun _ _ _ => (aGo_s rfl).trans rfl, fun _ _ _ => (aGo_s rfl).trans rfl, fun _ _ _ => (aGo_s rfl).trans rfl, fun _ _ _ => (aGo_s rfl).trans rfl, fun _ _ _ => (aGo_s rfl).trans rfl, fun _ _ _ => (aGo_s rfl).trans rfl, fun _ _ _ => (aGo_s rfl).trans rfl, fun _ _ _ => (aGo_s rfl).trans rfl, fun _ _ _ => (aGo_s rfl).trans rfl⟩
theorem s_216_18 {cl : Nat → List Value → aH → aRs} : ∀ ls st H, aGo cl none cd_216 0 18 ls st H = aILoad (fun st => aGo cl none cd_216 0 19 ls st H) ls 2 st := fun _ _ _ => (aGo_s rfl).trans rfl
theorem e_216 {d : Nat} {x0 : Nat} {H : aH} : aCall aMt (d + 1) 216 [.ref x0] H = aGo (aCall aMt d) none cd_216 0 0 [some (.ref x0), none, none] [] H := (c_0 rfl ⟨rfl, Nat.le_of_ble_eq_true rfl, Nat.le_of_ble_eq_true rfl⟩).trans rfl
theorem s_217 {cl : Nat → List Value → aH → aRs} : (∀ ls st H, aGo cl none cd_217 0 0 ls st H = aILoad (fun st => aGo cl none cd_217 0 1 ls st H) ls 1 st) ∧
  (∀ ls st H, aGo cl none cd_217 0 1 ls st H = aSwS (fun p st => aGo cl none cd_217 0 p ls st H) [(0, 60), (1, 68), (2, 76), (3, 81), (4, 88), (5, 95), (6, 102), (7, 109), (8, 116), (9, 124), (10, 129)] 136 st) ∧
  (∀ ls st H, aGo cl none cd_217 0 60 ls st H = aRLoad (fun st => aGo cl none cd_217 0 61 ls st H) ls 0 st) ∧
  (∀ ls st H, aGo cl none cd_217 0 61 ls st H = aGet (fun st => aGo cl none cd_217 0 64 ls st H) 8 0 H st) ∧
  (∀ ls st H, aGo cl none cd_217 0 64 ls st H = aGo cl none cd_217 0 66 ls (.int 7 :: st) H) ∧
  (∀ ls st H, aGo cl none cd_217 0 66 ls st H = aIald (fun st => aGo cl none cd_217 0 67 ls st H) none H st) ∧
  (∀ ls st H, aGo cl none cd_217 0 67 ls st H = aIret 0 st H) ∧
  (∀ ls st H, aGo cl none cd_217 0 68 ls st H = aRLoad (fun st => aGo cl none cd_217 0 69 ls st H) ls 0 st) ∧
  (∀ ls st H, aGo cl none cd_217 0 69 ls st H = aGet (fun st => aGo cl none cd_217 0 72 ls st H) 8 0 H st) ∧
  (∀ ls st H, aGo cl none cd_217 0 72 ls st H = aGo cl none cd_217 0 74 ls (.int 8 :: st) H) ∧
  (∀ ls st H, aGo cl none cd_217 0 74 ls st H = aIald (fun st => aGo cl none cd_217 0 75 ls st H) none H st) ∧
  (∀ ls st H, aGo cl none cd_217 0 75 ls st H = aIret 0 st H) ∧
  (∀ ls st H, aGo cl none cd_217 0 76 ls st H = aRLoad (fun st => aGo cl none cd_217 0 77 ls st H) ls 0 st) ∧
  (∀ ls st H, aGo cl none cd_217 0 77 ls st H = aCallV (fun st H => aGo cl none cd_217 0 80 ls st H) cl 130 0 8 H st) ∧
  (∀ ls st H, aGo cl none cd_217 0 80 ls st H = aIret 0 st H) ∧
  (∀ ls st H, aGo cl none cd_217 0 81 ls st H = aRLoad (fun st => aGo cl none cd_217 0 82 ls st H) ls 0 st) ∧
  (∀ ls st H, aGo cl none cd_217 0 82 ls st H = aGet (fun st => aGo cl none cd_217 0 85 ls st H) 8 0 H st) ∧
  (∀ ls st H, aGo cl none cd_217 0 85 ls st H = aGo cl none cd_217 0 86 ls (.int 0 :: st) H) ∧
  (∀ ls st H, aGo cl none cd_217 0 86 ls st H = aIald (fun st => aGo cl none cd_217 0 87 ls st H) none H st) ∧
  (∀ ls st H, aGo cl none cd_217 0 87 ls st H = aIret 0 st H) ∧
  (∀ ls st H, aGo cl none cd_217 0 88 ls st H = aRLoad (fun st => aGo cl none cd_217 0 89 ls st H) ls 0 st) ∧
  (∀ ls st H, aGo cl none cd_217 0 89 ls st H = aGet (fun st => aGo cl none cd_217 0 92 ls st H) 8 0 H st) ∧
  (∀ ls st H, aGo cl none cd_217 0 92 ls st H = aGo cl none cd_217 0 93 ls (.int 1 :: st) H) ∧
  (∀ ls st H, aGo cl none cd_217 0 93 ls st H = aIald (fun st => aGo cl none cd_217 0 94 ls st H) none H st) ∧
  (∀ ls st H, aGo cl none cd_217 0 94 ls st H = aIret 0 st H) ∧
  (∀ ls st H, aGo cl none cd_217 0 95 ls st H = aRLoad (fun st => aGo cl none cd_217 0 96 ls st H) ls 0 st) ∧
  (∀ ls st H, aGo cl none cd_217 0 96 ls st H = aGet (fun st => aGo cl none cd_217 0 99 ls st H) 8 0 H st) ∧
  (∀ ls st H, aGo cl none cd_217 0 99 ls st H = aGo cl none cd_217 0 100 ls (.int 2 :: st) H) ∧
  (∀ ls st H, aGo cl none cd_217 0 100 ls st H = aIald (fun st => aGo cl none cd_217 0 101 ls st H) none H st) ∧
  (∀ ls st H, aGo cl none cd_217 0 101 ls st H = aIret 0 st H) ∧
  (∀ ls st H, aGo cl none cd_217 0 102 ls st H = aRLoad (fun st => aGo cl none cd_217 0 103 ls st H) ls 0 st) ∧
  (∀ ls st H, aGo cl none cd_217 0 103 ls st H = aGet (fun st => aGo cl none cd_217 0 106 ls st H) 8 0 H st) ∧
  (∀ ls st H, aGo cl none cd_217 0 106 ls st H = aGo cl none cd_217 0 107 ls (.int 3 :: st) H) ∧
  (∀ ls st H, aGo cl none cd_217 0 107 ls st H = aIald (fun st => aGo cl none cd_217 0 108 ls st H) none H st) ∧
  (∀ ls st H, aGo cl none cd_217 0 108 ls st H = aIret 0 st H) ∧
  (∀ ls st H, aGo cl none cd_217 0 109 ls st H = aRLoad (fun st => aGo cl none cd_217 0 110 ls st H) ls 0 st) ∧
  (∀ ls st H, aGo cl none cd_217 0 110 ls st H = aGet (fun st => aGo cl none cd_217 0 113 ls st H) 8 0 H st) ∧
  (∀ ls st H, aGo cl none cd_217 0 113 ls st H = aGo cl none cd_217 0 114 ls (.int 5 :: st) H) ∧
  (∀ ls st H, aGo cl none cd_217 0 114 ls st H = aIald (fun st => aGo cl none cd_217 0 115 ls st H) none H st) ∧
  (∀ ls st H, aGo cl none cd_217 0 115 ls st H = aIret 0 st H) ∧
  (∀ ls st H, aGo cl none cd_217 0 116 ls st H = aRLoad (fun st => aGo cl none cd_217 0 117 ls st H) ls 0 st) ∧
  (∀ ls st H, aGo cl none cd_217 0 117 ls st H = aGet (fun st => aGo cl none cd_217 0 120 ls st H) 8 0 H st) ∧
  (∀ ls st H, aGo cl none cd_217 0 120 ls st H = aGo cl none cd_217 0 122 ls (.int 6 :: st) H) ∧
  (∀ ls st H, aGo cl none cd_217 0 122 ls st H = aIald (fun st => aGo cl none cd_217 0 123 ls st H) none H st) ∧
  (∀ ls st H, aGo cl none cd_217 0 123 ls st H = aIret 0 st H) ∧
  (∀ ls st H, aGo cl none cd_217 0 124 ls st H = aRLoad (fun st => aGo cl none cd_217 0 125 ls st H) ls 0 st) ∧
  (∀ ls st H, aGo cl none cd_217 0 125 ls st H = aGet (fun st => aGo cl none cd_217 0 128 ls st H) 8 14 H st) ∧
  (∀ ls st H, aGo cl none cd_217 0 128 ls st H = aIret 0 st H) ∧
  (∀ ls st H, aGo cl none cd_217 0 129 ls st H = aRLoad (fun st => aGo cl none cd_217 0 130 ls st H) ls 0 st) ∧
  (∀ ls st H, aGo cl none cd_217 0 130 ls st H = aGet (fun st => aGo cl none cd_217 0 133 ls st H) 8 0 H st) ∧
  (∀ ls st H, aGo cl none cd_217 0 133 ls st H = aGo cl none cd_217 0 134 ls (.int 4 :: st) H) ∧
  (∀ ls st H, aGo cl none cd_217 0 134 ls st H = aIald (fun st => aGo cl none cd_217 0 135 ls st H) none H st) ∧
  (∀ ls st H, aGo cl none cd_217 0 135 ls st H = aIret 0 st H) ∧
  (∀ ls st H, aGo cl none cd_217 0 136 ls st H = aRLoad (fun st => aGo cl none cd_217 0 137 ls st H) ls 0 st) ∧
  (∀ ls st H, aGo cl none cd_217 0 137 ls st H = aGo cl none cd_217 0 138 ls (.int 1 :: st) H) ∧
  (∀ ls st H, aGo cl none cd_217 0 138 ls st H = aCallV (fun st H => aGo cl none cd_217 0 141 ls st H) cl 116 1 8 H st) ∧
  (∀ ls st H, aGo cl none cd_217 0 141 ls st H = aIret 0 st H) :=
  ⟨fun _ _ _ => (aGo_s rfl).trans rfl, fun _ _ _ => (aGo_s rfl).trans rfl, fun _ _ _ => (aGo_s rfl).trans rfl, fun _ _ _ => (aGo_s rfl).trans rfl, fun _ _ _ => (aGo_s rfl).trans rfl, fun _ _ _ => (aGo_s rfl).trans rfl, fun _ _ _ => (aGo_s rfl).trans rfl, fun _ _ _ => (aGo_s rfl).trans rfl, fun _ _ _ => (aGo_s rfl).trans rfl, fun _ _ _ => (aGo_s rfl).trans rfl, fun _ _ _ => (aGo_s rfl).trans rfl, fun _ _ _ => (aGo_s rfl).trans rfl, fun _ _ _ => (aGo_s rfl).trans rfl, fun _ _ _ => (aGo_s rfl).trans rfl, fun _ _ _ => (aGo_s rfl).trans rfl, fun _ _ _ => (aGo_s rfl).trans rfl, fun _ _ _ => (aGo_s rfl).trans rfl, fun _ _ _ => (aGo_s rfl).trans rfl, fun _ _ _ => (aGo_s rfl).trans rfl, fun _ _ _ => (aGo_s rfl).trans rfl, fun _ _ _ => (aGo_s rfl).trans rfl, fun _ _ _ => (aGo_s rfl).trans rfl, fun _ _ _ => (aGo_s rfl).trans rfl, fun _ _ _ => (aGo_s rfl).trans rfl, fun _ _ _ => (aGo_s rfl).trans rfl, fun _ _ _ => (aGo_s rfl).trans rfl, fun _ _ _ => (aGo_s rfl).trans rfl, fun _ _ _ => (aGo_s rfl).trans rfl, fun _ _ _ => (aGo_s rfl).trans rfl, fun _ _ _ => (aGo_s rfl).trans rfl, fun _ _ _ => (aGo_s rfl).trans rfl, fun _ _ _ => (aGo_s rfl).trans rfl, fun _ _ _ => (aGo_s rfl).trans rfl, fun _ _ _ => (aGo_s rfl).trans rfl, fun _ _ _ => (aGo_s rfl).trans rfl, fun _ _ _ => (aGo_s rfl).trans rfl, fun _ _ _ => (aGo_s rfl).trans rfl, fun _ _ _ => (aGo_s rfl).trans rfl, fun _ _ _ => (aGo_s rfl).trans rfl, fun _ _ _ => (aGo_s rfl).trans rfl, fun _ _ _ => (aGo_s rfl).trans rfl, fun _ _ _ => (aGo_s rfl).trans rfl, fun _ _ _ => (aGo_s rfl).trans rfl, fun _ _ _ => (aGo_s rfl).trans rfl, fun _ _ _ => (aGo_s rfl).trans rfl, fun _ _ _ => (aGo_s rfl).trans rfl, fun _ _ _ => (aGo_s rfl).trans rfl, fun _ _ _ => (aGo_s rfl).trans rfl, fun _ _ _ => (aGo_s rfl).trans rfl, fun _ _ _ => (aGo_s rfl).trans rfl, fun _ _ _ => (aGo_s rfl).trans rfl, fun _ _ _ => (aGo_s rfl).trans rfl, fun _ _ _ => (aGo_s rfl).trans rfl, fun _ _ _ => (aGo_s rfl).trans rfl, fun _ _ _ => (aGo_s rfl).trans rfl, fun _ _ _ => (aGo_s rfl).trans rfl, fun _ _ _ => (aGo_s rfl).trans rfl⟩
theorem e_217 {d : Nat} {x0 : Nat} {x1 : Int32} {H : aH} : aCall aMt (d + 1) 217 [.ref x0, .int x1] H = aGo (aCall aMt d) none cd_217 0 0 [some (.ref x0), some (.int x1)] [] H := (c_0 rfl ⟨rfl, Nat.le_of_ble_eq_true rfl, Nat.le_of_ble_eq_true rfl⟩).trans rfl
theorem s_218 {cl : Nat → List Value → aH → aRs} : (∀ ls st H, aGo cl none cd_218 0 0 ls st H = aILoad (fun st => aGo cl none cd_218 0 1 ls st H) ls 1 st) ∧
  (∀ ls st H, aGo cl none cd_218 0 1 ls st H = aGo cl none cd_218 0 2 ls (.int 1 :: st) H) ∧
  (∀ ls st H, aGo cl none cd_218 0 2 ls st H = aGo cl none cd_218 0 4 ls (.int 6 :: st) H) ∧
  (∀ ls st H, aGo cl none cd_218 0 4 ls st H = aCallI (fun st H => aGo cl none cd_218 0 7 ls st H) cl 117 3 H st) ∧
  (∀ ls st H, aGo cl none cd_218 0 7 ls st H = aIf (fun p st => aGo cl none cd_218 0 p ls st H) .eq 19 10 st) ∧
  (∀ ls st H, aGo cl none cd_218 0 10 ls st H = aRLoad (fun st => aGo cl none cd_218 0 11 ls st H) ls 0 st) ∧
  (∀ ls st H, aGo cl none cd_218 0 11 ls st H = aGet (fun st => aGo cl none cd_218 0 14 ls st H) 8 4 H st) ∧
  (∀ ls st H, aGo cl none cd_218 0 14 ls st H = aILoad (fun st => aGo cl none cd_218 0 15 ls st H) ls 1 st) ∧
  (∀ ls st H, aGo cl none cd_218 0 15 ls st H = aIald (fun st => aGo cl none cd_218 0 16 ls st H) none H st) ∧
  (∀ ls st H, aGo cl none cd_218 0 16 ls st H = aGo cl none cd_218 0 24 ls st H) ∧
  (∀ ls st H, aGo cl none cd_218 0 19 ls st H = aRLoad (fun st => aGo cl none cd_218 0 20 ls st H) ls 0 st) ∧
  (∀ ls st H, aGo cl none cd_218 0 20 ls st H = aGo cl none cd_218 0 21 ls (.int 1 :: st) H) ∧
  (∀ ls st H, aGo cl none cd_218 0 21 ls st H = aCallV (fun st H => aGo cl none cd_218 0 24 ls st H) cl 116 1 8 H st) ∧
  (∀ ls st H, aGo cl none cd_218 0 24 ls st H = aIret 0 st H) :=
  ⟨fun _ _ _ => (aGo_s rfl).trans rfl, fun _ _ _ => (aGo_s rfl).trans rfl, fun _ _ _ => (aGo_s rfl).trans rfl, fun _ _ _ => (aGo_s rfl).trans rfl, fun _ _ _ => (aGo_s rfl).trans rfl, fun _ _ _ => (aGo_s rfl).trans rfl, fun _ _ _ => (aGo_s rfl).trans rfl, fun _ _ _ => (aGo_s rfl).trans rfl, fun _ _ _ => (aGo_s rfl).trans rfl, fun _ _ _ => (aGo_s rfl).trans rfl, fun _ _ _ => (aGo_s rfl).trans rfl, fun _ _ _ => (aGo_s rfl).trans rfl, fun _ _ _ => (aGo_s rfl).trans rfl, fun _ _ _ => (aGo_s rfl).trans rfl⟩
theorem e_218 {d : Nat} {x0 : Nat} {x1 : Int32} {H : aH} : aCall aMt (d + 1) 218 [.ref x0, .int x1] H = aGo (aCall aMt d) none cd_218 0 0 [some (.ref x0), some (.int x1)] [] H := (c_0 rfl ⟨rfl, Nat.le_of_ble_eq_true rfl, Nat.le_of_ble_eq_true rfl⟩).trans rfl
theorem s_219 {cl : Nat → List Value → aH → aRs} : (∀ ls st H, aGo cl none cd_219 0 0 ls st H = aILoad (fun st => aGo cl none cd_219 0 1 ls st H) ls 0 st) ∧
  (∀ ls st H, aGo cl none cd_219 0 1 ls st H = aILoad (fun st => aGo cl none cd_219 0 2 ls st H) ls 0 st) ∧
  (∀ ls st H, aGo cl none cd_219 0 2 ls st H = aGo cl none cd_219 0 3 ls (.int 1 :: st) H) ∧
  (∀ ls st H, aGo cl none cd_219 0 3 ls st H = aBin (fun st => aGo cl none cd_219 0 4 ls st H) (fun x y => (x.toUInt32 >>> (y.toUInt32 &&& Int32.toUInt32 31)).toInt32) st) ∧
  (∀ ls st H, aGo cl none cd_219 0 4 ls st H = aGo cl none cd_219 0 7 ls (.int 1431655765 :: st) H) ∧
  (∀ ls st H, aGo cl none cd_219 0 7 ls st H = aBin (fun st => aGo cl none cd_219 0 8 ls st H) (fun x y => x &&& y) st) ∧
  (∀ ls st H, aGo cl none cd_219 0 8 ls st H = aBin (fun st => aGo cl none cd_219 0 9 ls st H) (fun x y => x - y) st) ∧
  (∀ ls st H, aGo cl none cd_219 0 9 ls st H = aIStore (fun ls st => aGo cl none cd_219 0 10 ls st H) ls 0 st) ∧
  (∀ ls st H, aGo cl none cd_219 0 10 ls st H = aILoad (fun st => aGo cl none cd_219 0 11 ls st H) ls 0 st) ∧
  (∀ ls st H, aGo cl none cd_219 0 11 ls st H = aGo cl none cd_219 0 14 ls (.int 858993459 :: st) H) ∧
  (∀ ls st H, aGo cl none cd_219 0 14 ls st H = aBin (fun st => aGo cl none cd_219 0 15 ls st H) (fun x y => x &&& y) st) ∧
  (∀ ls st H, aGo cl none cd_219 0 15 ls st H = aILoad (fun st => aGo cl none cd_219 0 16 ls st H) ls 0 st) ∧
  (∀ ls st H, aGo cl none cd_219 0 16 ls st H = aGo cl none cd_219 0 17 ls (.int 2 :: st) H) ∧
  (∀ ls st H, aGo cl none cd_219 0 17 ls st H = aBin (fun st => aGo cl none cd_219 0 18 ls st H) (fun x y => (x.toUInt32 >>> (y.toUInt32 &&& Int32.toUInt32 31)).toInt32) st) ∧
  (∀ ls st H, aGo cl none cd_219 0 18 ls st H = aGo cl none cd_219 0 21 ls (.int 858993459 :: st) H) ∧
  (∀ ls st H, aGo cl none cd_219 0 21 ls st H = aBin (fun st => aGo cl none cd_219 0 22 ls st H) (fun x y => x &&& y) st) ∧
  (∀ ls st H, aGo cl none cd_219 0 22 ls st H = aBin (fun st => aGo cl none cd_219 0 23 ls st H) (fun x y => x + y) st) ∧
  (∀ ls st H, aGo cl none cd_219 0 23 ls st H = aIStore (fun ls st => aGo cl none cd_219 0 24 ls st H) ls 0 st) ∧
  (∀ ls st H, aGo cl none cd_219 0 24 ls st H = aILoad (fun st => aGo cl none cd_219 0 25 ls st H) ls 0 st) ∧
  (∀ ls st H, aGo cl none cd_219 0 25 ls st H = aILoad (fun st => aGo cl none cd_219 0 26 ls st H) ls 0 st) ∧
  (∀ ls st H, aGo cl none cd_219 0 26 ls st H = aGo cl none cd_219 0 27 ls (.int 4 :: st) H) ∧
  (∀ ls st H, aGo cl none cd_219 0 27 ls st H = aBin (fun st => aGo cl none cd_219 0 28 ls st H) (fun x y => (x.toUInt32 >>> (y.toUInt32 &&& Int32.toUInt32 31)).toInt32) st) ∧
  (∀ ls st H, aGo cl none cd_219 0 28 ls st H = aBin (fun st => aGo cl none cd_219 0 29 ls st H) (fun x y => x + y) st) ∧
  (∀ ls st H, aGo cl none cd_219 0 29 ls st H = aGo cl none cd_219 0 32 ls (.int 252645135 :: st) H) ∧
  (∀ ls st H, aGo cl none cd_219 0 32 ls st H = aBin (fun st => aGo cl none cd_219 0 33 ls st H) (fun x y => x &&& y) st) ∧
  (∀ ls st H, aGo cl none cd_219 0 33 ls st H = aIStore (fun ls st => aGo cl none cd_219 0 34 ls st H) ls 0 st) ∧
  (∀ ls st H, aGo cl none cd_219 0 34 ls st H = aILoad (fun st => aGo cl none cd_219 0 35 ls st H) ls 0 st) ∧
  (∀ ls st H, aGo cl none cd_219 0 35 ls st H = aILoad (fun st => aGo cl none cd_219 0 36 ls st H) ls 0 st) ∧
  (∀ ls st H, aGo cl none cd_219 0 36 ls st H = aGo cl none cd_219 0 38 ls (.int 8 :: st) H) ∧
  (∀ ls st H, aGo cl none cd_219 0 38 ls st H = aBin (fun st => aGo cl none cd_219 0 39 ls st H) (fun x y => (x.toUInt32 >>> (y.toUInt32 &&& Int32.toUInt32 31)).toInt32) st) ∧
  (∀ ls st H, aGo cl none cd_219 0 39 ls st H = aBin (fun st => aGo cl none cd_219 0 40 ls st H) (fun x y => x + y) st) ∧
  (∀ ls st H, aGo cl none cd_219 0 40 ls st H = aIStore (fun ls st => aGo cl none cd_219 0 41 ls st H) ls 0 st) ∧
  (∀ ls st H, aGo cl none cd_219 0 41 ls st H = aILoad (fun st => aGo cl none cd_219 0 42 ls st H) ls 0 st) ∧
  (∀ ls st H, aGo cl none cd_219 0 42 ls st H = aILoad (fun st => aGo cl none cd_219 0 43 ls st H) ls 0 st) ∧
  (∀ ls st H, aGo cl none cd_219 0 43 ls st H = aGo cl none cd_219 0 45 ls (.int 16 :: st) H) ∧
  (∀ ls st H, aGo cl none cd_219 0 45 ls st H = aBin (fun st => aGo cl none cd_219 0 46 ls st H) (fun x y => (x.toUInt32 >>> (y.toUInt32 &&& Int32.toUInt32 31)).toInt32) st) ∧
  (∀ ls st H, aGo cl none cd_219 0 46 ls st H = aBin (fun st => aGo cl none cd_219 0 47 ls st H) (fun x y => x + y) st) ∧
  (∀ ls st H, aGo cl none cd_219 0 47 ls st H = aIStore (fun ls st => aGo cl none cd_219 0 48 ls st H) ls 0 st) ∧
  (∀ ls st H, aGo cl none cd_219 0 48 ls st H = aILoad (fun st => aGo cl none cd_219 0 49 ls st H) ls 0 st) ∧
  (∀ ls st H, aGo cl none cd_219 0 49 ls st H = aGo cl none cd_219 0 51 ls (.int 63 :: st) H) ∧
  (∀ ls st H, aGo cl none cd_219 0 51 ls st H = aBin (fun st => aGo cl none cd_219 0 52 ls st H) (fun x y => x &&& y) st) ∧
  (∀ ls st H, aGo cl none cd_219 0 52 ls st H = aIret 0 st H) :=
  ⟨fun _ _ _ => (aGo_s rfl).trans rfl, fun _ _ _ => (aGo_s rfl).trans rfl, fun _ _ _ => (aGo_s rfl).trans rfl, fun _ _ _ => (aGo_s rfl).trans rfl, fun _ _ _ => (aGo_s rfl).trans rfl, fun _ _ _ => (aGo_s rfl).trans rfl, fun _ _ _ => (aGo_s rfl).trans rfl, fun _ _ _ => (aGo_s rfl).trans rfl, fun _ _ _ => (aGo_s rfl).trans rfl, fun _ _ _ => (aGo_s rfl).trans rfl, fun _ _ _ => (aGo_s rfl).trans rfl, fun _ _ _ => (aGo_s rfl).trans rfl, fun _ _ _ => (aGo_s rfl).trans rfl, fun _ _ _ => (aGo_s rfl).trans rfl, fun _ _ _ => (aGo_s rfl).trans rfl, fun _ _ _ => (aGo_s rfl).trans rfl, fun _ _ _ => (aGo_s rfl).trans rfl, fun _ _ _ => (aGo_s rfl).trans rfl, fun _ _ _ => (aGo_s rfl).trans rfl, fun _ _ _ => (aGo_s rfl).trans rfl, fun _ _ _ => (aGo_s rfl).trans rfl, fun _ _ _ => (aGo_s rfl).trans rfl, fun _ _ _ => (aGo_s rfl).trans rfl, fun _ _ _ => (aGo_s rfl).trans rfl, fun _ _ _ => (aGo_s rfl).trans rfl, fun _ _ _ => (aGo_s rfl).trans rfl, fun _ _ _ => (aGo_s rfl).trans rfl, fun _ _ _ => (aGo_s rfl).trans rfl, fun _ _ _ => (aGo_s rfl).trans rfl, fun _ _ _ => (aGo_s rfl).trans rfl, fun _ _ _ => (aGo_s rfl).trans rfl, fun _ _ _ => (aGo_s rfl).trans rfl, fun _ _ _ => (aGo_s rfl).trans rfl, fun _ _ _ => (aGo_s rfl).trans rfl, fun _ _ _ => (aGo_s rfl).trans rfl, fun _ _ _ => (aGo_s rfl).trans rfl, fun _ _ _ => (aGo_s rfl).trans rfl, fun _ _ _ => (aGo_s rfl).trans rfl, fun _ _ _ => (aGo_s rfl).trans rfl, fun _ _ _ => (aGo_s rfl).trans rfl, fun _ _ _ => (aGo_s rfl).trans rfl, fun _ _ _ => (aGo_s rfl).trans rfl⟩
theorem e_219 {d : Nat} {x0 : Int32} {H : aH} : aCall aMt (d + 1) 219 [.int x0] H = aGo (aCall aMt d) none cd_219 0 0 [some (.int x0)] [] H := (c_0 rfl ⟨rfl, Nat.le_of_ble_eq_true rfl, Nat.le_of_ble_eq_true rfl⟩).trans rfl
theorem s_220 {cl : Nat → List Value → aH → aRs} : (∀ ls st H, aGo cl none cd_220 3 0 ls st H = aGo cl none cd_220 3 1 ls (.int 0 :: st) H) ∧
  (∀ ls st H, aGo cl none cd_220 3 1 ls st H = aIStore (fun ls st => aGo cl none cd_220 3 2 ls st H) ls 2 st) ∧
  (∀ ls st H, aGo cl none cd_220 3 2 ls st H = aRLoad (fun st => aGo cl none cd_220 3 3 ls st H) ls 0 st) ∧
  (∀ ls st H, aGo cl none cd_220 3 3 ls st H = aAlen (fun st => aGo cl none cd_220 3 4 ls st H) none H st) ∧
  (∀ ls st H, aGo cl none cd_220 3 4 ls st H = aIStore (fun ls st => aGo cl none cd_220 3 5 ls st H) ls 3 st) ∧
  (∀ ls st H, aGo cl none cd_220 3 6 ls st H = aILoad (fun st => aGo cl none cd_220 3 7 ls st H) ls 3 st) ∧
  (∀ ls st H, aGo cl none cd_220 3 7 ls st H = aIc (fun p st => aGo cl none cd_220 3 p ls st H) .ge 20 10 st) ∧
  (∀ ls st H, aGo cl none cd_220 3 10 ls st H = aRLoad (fun st => aGo cl none cd_220 3 11 ls st H) ls 0 st) ∧
  (∀ ls st H, aGo cl none cd_220 3 11 ls st H = aILoad (fun st => aGo cl none cd_220 3 12 ls st H) ls 2 st) ∧
  (∀ ls st H, aGo cl none cd_220 3 12 ls st H = aILoad (fun st => aGo cl none cd_220 3 13 ls st H) ls 1 st) ∧
  (∀ ls st H, aGo cl none cd_220 3 13 ls st H = aIast (fun st H => aGo cl none cd_220 3 14 ls st H) H st) ∧
  (∀ ls st H, aGo cl none cd_220 3 14 ls st H = aInc (fun ls => aGo cl none cd_220 3 17 ls st H) ls 2 1) ∧
  (∀ ls st H, aGo cl none cd_220 3 17 ls st H = aGo cl none cd_220 3 5 ls st H) ∧
  (∀ ls st H, aGo cl none cd_220 3 20 ls st H = aVret 3 st H) :=
  ⟨fun _ _ _ => (aGo_s rfl).trans rfl, fun _ _ _ => (aGo_s rfl).trans rfl, fun _ _ _ => (aGo_s rfl).trans rfl, fun _ _ _ => (aGo_s rfl).trans rfl, fun _ _ _ => (aGo_s rfl).trans rfl, fun _ _ _ => (aGo_s rfl).trans rfl, fun _ _ _ => (aGo_s rfl).trans rfl, fun _ _ _ => (aGo_s rfl).trans rfl, fun _ _ _ => (aGo_s rfl).trans rfl, fun _ _ _ => (aGo_s rfl).trans rfl, fun _ _ _ => (aGo_s rfl).trans rfl, fun _ _ _ => (aGo_s rfl).trans rfl, fun _ _ _ => (aGo_s rfl).trans rfl, fun _ _ _ => (aGo_s rfl).trans rfl⟩
theorem s_220_5 {cl : Nat → List Value → aH → aRs} : ∀ ls st H, aGo cl none cd_220 3 5 ls st H = aILoad (fun st => aGo cl none cd_220 3 6 ls st H) ls 2 st := fun _ _ _ => (aGo_s rfl).trans rfl
theorem e_220 {d : Nat} {x0 : Nat} {x1 : Int32} {H : aH} : aCall aMt (d + 1) 220 [.ref x0, .int x1] H = aGo (aCall aMt d) none cd_220 3 0 [some (.ref x0), some (.int x1), none, none] [] H := (c_0 rfl ⟨rfl, Nat.le_of_ble_eq_true rfl, Nat.le_of_ble_eq_true rfl⟩).trans rfl
theorem s_221 {cl : Nat → List Value → aH → aRs} : (∀ ls st H, aGo cl none cd_221 0 0 ls st H = aRLoad (fun st => aGo cl none cd_221 0 1 ls st H) ls 0 st) ∧
  (∀ ls st H, aGo cl none cd_221 0 1 ls st H = aILoad (fun st => aGo cl none cd_221 0 2 ls st H) ls 1 st) ∧
  (∀ ls st H, aGo cl none cd_221 0 2 ls st H = aGo cl none cd_221 0 3 ls (.int 0 :: st) H) ∧
  (∀ ls st H, aGo cl none cd_221 0 3 ls st H = aCallV (fun st H => aGo cl none cd_221 0 6 ls st H) cl 222 2 12 H st) ∧
  (∀ ls st H, aGo cl none cd_221 0 6 ls st H = aIret 0 st H) :=
  ⟨fun _ _ _ => (aGo_s rfl).trans rfl, fun _ _ _ => (aGo_s rfl).trans rfl, fun _ _ _ => (aGo_s rfl).trans rfl, fun _ _ _ => (aGo_s rfl).trans rfl, fun _ _ _ => (aGo_s rfl).trans rfl⟩
theorem e_221 {d : Nat} {x0 : Nat} {x1 : Int32} {H : aH} : aCall aMt (d + 1) 221 [.ref x0, .int x1] H = aGo (aCall aMt d) none cd_221 0 0 [some (.ref x0), some (.int x1)] [] H := (c_0 rfl ⟨rfl, Nat.le_of_ble_eq_true rfl, Nat.le_of_ble_eq_true rfl⟩).trans rfl
theorem s_222 {cl : Nat → List Value → aH → aRs} : (∀ ls st H, aGo cl none cd_222 0 0 ls st H = aRLoad (fun st => aGo cl none cd_222 0 1 ls st H) ls 0 st) ∧
  (∀ ls st H, aGo cl none cd_222 0 1 ls st H = aCallV (fun st H => aGo cl none cd_222 0 4 ls st H) cl 223 0 12 H st) ∧
  (∀ ls st H, aGo cl none cd_222 0 4 ls st H = aIf (fun p st => aGo cl none cd_222 0 p ls st H) .eq 23 7 st) ∧
  (∀ ls st H, aGo cl none cd_222 0 7 ls st H = aRLoad (fun st => aGo cl none cd_222 0 8 ls st H) ls 0 st) ∧
  (∀ ls st H, aGo cl none cd_222 0 8 ls st H = aGetS (fun st => aGo cl none cd_222 0 11 ls st H) 0 st) ∧
  (∀ ls st H, aGo cl none cd_222 0 11 ls st H = aILoad (fun st => aGo cl none cd_222 0 12 ls st H) ls 1 st) ∧
  (∀ ls st H, aGo cl none cd_222 0 12 ls st H = aILoad (fun st => aGo cl none cd_222 0 13 ls st H) ls 2 st) ∧
  (∀ ls st H, aGo cl none cd_222 0 13 ls st H = aRLoad (fun st => aGo cl none cd_222 0 14 ls st H) ls 0 st) ∧
  (∀ ls st H, aGo cl none cd_222 0 14 ls st H = aCallV (fun st H => aGo cl none cd_222 0 17 ls st H) cl 224 0 12 H st) ∧
  (∀ ls st H, aGo cl none cd_222 0 17 ls st H = aCallI (fun st H => aGo cl none cd_222 0 20 ls st H) cl 226 4 H st) ∧
  (∀ ls st H, aGo cl none cd_222 0 20 ls st H = aGo cl none cd_222 0 36 ls st H) ∧
  (∀ ls st H, aGo cl none cd_222 0 23 ls st H = aRLoad (fun st => aGo cl none cd_222 0 24 ls st H) ls 0 st) ∧
  (∀ ls st H, aGo cl none cd_222 0 24 ls st H = aGetS (fun st => aGo cl none cd_222 0 27 ls st H) 0 st) ∧
  (∀ ls st H, aGo cl none cd_222 0 27 ls st H = aILoad (fun st => aGo cl none cd_222 0 28 ls st H) ls 1 st) ∧
  (∀ ls st H, aGo cl none cd_222 0 28 ls st H = aILoad (fun st => aGo cl none cd_222 0 29 ls st H) ls 2 st) ∧
  (∀ ls st H, aGo cl none cd_222 0 29 ls st H = aRLoad (fun st => aGo cl none cd_222 0 30 ls st H) ls 0 st) ∧
  (∀ ls st H, aGo cl none cd_222 0 30 ls st H = aCallV (fun st H => aGo cl none cd_222 0 33 ls st H) cl 224 0 12 H st) ∧
  (∀ ls st H, aGo cl none cd_222 0 33 ls st H = none) ∧
  (∀ ls st H, aGo cl none cd_222 0 36 ls st H = aIret 0 st H) :=
  ⟨fun _ _ _ => (aGo_s rfl).trans rfl, fun _ _ _ => (aGo_s rfl).trans rfl, fun _ _ _ => (aGo_s rfl).trans rfl, fun _ _ _ => (aGo_s rfl).trans rfl, fun _ _ _ => (aGo_s rfl).trans rfl, fun _ _ _ => (aGo_s rfl).trans rfl, fun _ _ _ => (aGo_s rfl).trans rfl, fun _ _ _ => (aGo_s rfl).trans rfl, fun _ _ _ => (aGo_s rfl).trans rfl, fun _ _ _ => (aGo_s rfl).trans rfl, fun _ _ _ => (aGo_s rfl).trans rfl, fun _ _ _ => (aGo_s rfl).trans rfl, fun _ _ _ => (aGo_s rfl).trans rfl, fun _ _ _ => (aGo_s rfl).trans rfl, fun _ _ _ => (aGo_s rfl).trans rfl, fun _ _ _ => (aGo_s rfl).trans rfl, fun _ _ _ => (aGo_s rfl).trans rfl, fun _ _ _ => (aGo_s rfl).trans rfl, fun _ _ _ => (aGo_s rfl).trans rfl⟩
theorem e_222 {d : Nat} {x0 : Nat} {x1 : Int32} {x2 : Int32} {H : aH} : aCall aMt (d + 1) 222 [.ref x0, .int x1, .int x2] H = aGo (aCall aMt d) none cd_222 0 0 [some (.ref x0), some (.int x1), some (.int x2)] [] H := (c_0 rfl ⟨rfl, Nat.le_of_ble_eq_true rfl, Nat.le_of_ble_eq_true rfl⟩).trans rfl
theorem s_223 {cl : Nat → List Value → aH → aRs} : (∀ ls st H, aGo cl none cd_223 1 0 ls st H = aGo cl none cd_223 1 3 ls (.int 1 :: st) H) ∧
  (∀ ls st H, aGo cl none cd_223 1 3 ls st H = aIf (fun p st => aGo cl none cd_223 1 p ls st H) .eq 17 6 st) ∧
  (∀ ls st H, aGo cl none cd_223 1 6 ls st H = aRLoad (fun st => aGo cl none cd_223 1 7 ls st H) ls 0 st) ∧
  (∀ ls st H, aGo cl none cd_223 1 7 ls st H = aGetS (fun st => aGo cl none cd_223 1 10 ls st H) 1 st) ∧
  (∀ ls st H, aGo cl none cd_223 1 10 ls st H = aIf (fun p st => aGo cl none cd_223 1 p ls st H) .ne 17 13 st) ∧
  (∀ ls st H, aGo cl none cd_223 1 13 ls st H = aGo cl none cd_223 1 14 ls (.int 1 :: st) H) ∧
  (∀ ls st H, aGo cl none cd_223 1 14 ls st H = aGo cl none cd_223 1 18 ls st H) ∧
  (∀ ls st H, aGo cl none cd_223 1 17 ls st H = aGo cl none cd_223 1 18 ls (.int 0 :: st) H) ∧
  (∀ ls st H, aGo cl none cd_223 1 18 ls st H = aIret 1 st H) :=
  ⟨fun _ _ _ => (aGo_s rfl).trans rfl, fun _ _ _ => (aGo_s rfl).trans rfl, fun _ _ _ => (aGo_s rfl).trans rfl, fun _ _ _ => (aGo_s rfl).trans rfl, fun _ _ _ => (aGo_s rfl).trans rfl, fun _ _ _ => (aGo_s rfl).trans rfl, fun _ _ _ => (aGo_s rfl).trans rfl, fun _ _ _ => (aGo_s rfl).trans rfl, fun _ _ _ => (aGo_s rfl).trans rfl⟩
theorem e_223 {d : Nat} {x0 : Nat} {H : aH} : aCall aMt (d + 1) 223 [.ref x0] H = aGo (aCall aMt d) none cd_223 1 0 [some (.ref x0)] [] H := (c_0 rfl ⟨rfl, Nat.le_of_ble_eq_true rfl, Nat.le_of_ble_eq_true rfl⟩).trans rfl
theorem s_224 {cl : Nat → List Value → aH → aRs} : (∀ ls st H, aGo cl none cd_224 0 0 ls st H = aRLoad (fun st => aGo cl none cd_224 0 1 ls st H) ls 0 st) ∧
  (∀ ls st H, aGo cl none cd_224 0 1 ls st H = aGetS (fun st => aGo cl none cd_224 0 4 ls st H) 0 st) ∧
  (∀ ls st H, aGo cl none cd_224 0 4 ls st H = aAlen (fun st => aGo cl none cd_224 0 5 ls st H) none H st) ∧
  (∀ ls st H, aGo cl none cd_224 0 5 ls st H = aRLoad (fun st => aGo cl none cd_224 0 6 ls st H) ls 0 st) ∧
  (∀ ls st H, aGo cl none cd_224 0 6 ls st H = aCallV (fun st H => aGo cl none cd_224 0 9 ls st H) cl 225 0 12 H st) ∧
  (∀ ls st H, aGo cl none cd_224 0 9 ls st H = aBin (fun st => aGo cl none cd_224 0 10 ls st H) (fun x y => x >>> (y &&& 31)) st) ∧
  (∀ ls st H, aGo cl none cd_224 0 10 ls st H = aIret 0 st H) :=
  ⟨fun _ _ _ => (aGo_s rfl).trans rfl, fun _ _ _ => (aGo_s rfl).trans rfl, fun _ _ _ => (aGo_s rfl).trans rfl, fun _ _ _ => (aGo_s rfl).trans rfl, fun _ _ _ => (aGo_s rfl).trans rfl, fun _ _ _ => (aGo_s rfl).trans rfl, fun _ _ _ => (aGo_s rfl).trans rfl⟩
theorem e_224 {d : Nat} {x0 : Nat} {H : aH} : aCall aMt (d + 1) 224 [.ref x0] H = aGo (aCall aMt d) none cd_224 0 0 [some (.ref x0)] [] H := (c_0 rfl ⟨rfl, Nat.le_of_ble_eq_true rfl, Nat.le_of_ble_eq_true rfl⟩).trans rfl
theorem s_225 {cl : Nat → List Value → aH → aRs} : (∀ ls st H, aGo cl none cd_225 1 0 ls st H = aGo cl none cd_225 1 3 ls (.int 1 :: st) H) ∧
  (∀ ls st H, aGo cl none cd_225 1 3 ls st H = aIf (fun p st => aGo cl none cd_225 1 p ls st H) .eq 13 6 st) ∧
  (∀ ls st H, aGo cl none cd_225 1 6 ls st H = aRLoad (fun st => aGo cl none cd_225 1 7 ls st H) ls 0 st) ∧
  (∀ ls st H, aGo cl none cd_225 1 7 ls st H = aGetS (fun st => aGo cl none cd_225 1 10 ls st H) 1 st) ∧
  (∀ ls st H, aGo cl none cd_225 1 10 ls st H = aGo cl none cd_225 1 14 ls st H) ∧
  (∀ ls st H, aGo cl none cd_225 1 13 ls st H = aGo cl none cd_225 1 14 ls (.int 1 :: st) H) ∧
  (∀ ls st H, aGo cl none cd_225 1 14 ls st H = aIret 1 st H) :=
  ⟨fun _ _ _ => (aGo_s rfl).trans rfl, fun _ _ _ => (aGo_s rfl).trans rfl, fun _ _ _ => (aGo_s rfl).trans rfl, fun _ _ _ => (aGo_s rfl).trans rfl, fun _ _ _ => (aGo_s rfl).trans rfl, fun _ _ _ => (aGo_s rfl).trans rfl, fun _ _ _ => (aGo_s rfl).trans rfl⟩
theorem e_225 {d : Nat} {x0 : Nat} {H : aH} : aCall aMt (d + 1) 225 [.ref x0] H = aGo (aCall aMt d) none cd_225 1 0 [some (.ref x0)] [] H := (c_0 rfl ⟨rfl, Nat.le_of_ble_eq_true rfl, Nat.le_of_ble_eq_true rfl⟩).trans rfl
theorem s_226 {cl : Nat → List Value → aH → aRs} : (∀ ls st H, aGo cl none cd_226 0 0 ls st H = aILoad (fun st => aGo cl none cd_226 0 1 ls st H) ls 1 st) ∧
  (∀ ls st H, aGo cl none cd_226 0 1 ls st H = aCallI (fun st H => aGo cl none cd_226 0 4 ls st H) cl 227 1 H st) ∧
  (∀ ls st H, aGo cl none cd_226 0 4 ls st H = aIf (fun p st => aGo cl none cd_226 0 p ls st H) .ne 9 7 st) ∧
  (∀ ls st H, aGo cl none cd_226 0 7 ls st H = aGo cl none cd_226 0 8 ls (.int (-1) :: st) H) ∧
  (∀ ls st H, aGo cl none cd_226 0 8 ls st H = aIret 0 st H) ∧
  (∀ ls st H, aGo cl none cd_226 0 9 ls st H = aILoad (fun st => aGo cl none cd_226 0 10 ls st H) ls 2 st) ∧
  (∀ ls st H, aGo cl none cd_226 0 10 ls st H = aGo cl none cd_226 0 11 ls (.int 0 :: st) H) ∧
  (∀ ls st H, aGo cl none cd_226 0 11 ls st H = aMax (fun st => aGo cl none cd_226 0 14 ls st H) st) ∧
  (∀ ls st H, aGo cl none cd_226 0 14 ls st H = aIStore (fun ls st => aGo cl none cd_226 0 15 ls st H) ls 2 st) ∧
  (∀ ls st H, aGo cl none cd_226 0 15 ls st H = aILoad (fun st => aGo cl none cd_226 0 16 ls st H) ls 3 st) ∧
  (∀ ls st H, aGo cl none cd_226 0 16 ls st H = aRLoad (fun st => aGo cl none cd_226 0 17 ls st H) ls 0 st) ∧
  (∀ ls st H, aGo cl none cd_226 0 17 ls st H = aAlen (fun st => aGo cl none cd_226 0 18 ls st H) none H st) ∧
  (∀ ls st H, aGo cl none cd_226 0 18 ls st H = aMin (fun st => aGo cl none cd_226 0 21 ls st H) st) ∧
  (∀ ls st H, aGo cl none cd_226 0 21 ls st H = aIStore (fun ls st => aGo cl none cd_226 0 22 ls st H) ls 3 st) ∧
  (∀ ls st H, aGo cl none cd_226 0 22 ls st H = aILoad (fun st => aGo cl none cd_226 0 23 ls st H) ls 2 st) ∧
  (∀ ls st H, aGo cl none cd_226 0 23 ls st H = aILoad (fun st => aGo cl none cd_226 0 24 ls st H) ls 3 st) ∧
  (∀ ls st H, aGo cl none cd_226 0 24 ls st H = aIc (fun p st => aGo cl none cd_226 0 p ls st H) .lt 29 27 st) ∧
  (∀ ls st H, aGo cl none cd_226 0 27 ls st H = aGo cl none cd_226 0 28 ls (.int (-1) :: st) H) ∧
  (∀ ls st H, aGo cl none cd_226 0 28 ls st H = aIret 0 st H) ∧
  (∀ ls st H, aGo cl none cd_226 0 29 ls st H = aRLoad (fun st => aGo cl none cd_226 0 30 ls st H) ls 0 st) ∧
  (∀ ls st H, aGo cl none cd_226 0 30 ls st H = aILoad (fun st => aGo cl none cd_226 0 31 ls st H) ls 1 st) ∧
  (∀ ls st H, aGo cl none cd_226 0 31 ls st H = aILoad (fun st => aGo cl none cd_226 0 32 ls st H) ls 2 st) ∧
  (∀ ls st H, aGo cl none cd_226 0 32 ls st H = aILoad (fun st => aGo cl none cd_226 0 33 ls st H) ls 3 st) ∧
  (∀ ls st H, aGo cl none cd_226 0 33 ls st H = aCallI (fun st H => aGo cl none cd_226 0 36 ls st H) cl 228 4 H st) ∧
  (∀ ls st H, aGo cl none cd_226 0 36 ls st H = aIret 0 st H) :=
  ⟨fun _ _ _ => (aGo_s rfl).trans rfl, fun _ _ _ => (aGo_s rfl).trans rfl, fun _ _ _ => (aGo_s rfl).trans rfl, fun _ _ _ => (aGo_s rfl).trans rfl, fun _ _ _ => (aGo_s rfl).trans rfl, fun _ _ _ => (aGo_s rfl).trans rfl, fun _ _ _ => (aGo_s rfl).trans rfl, fun _ _ _ => (aGo_s rfl).trans rfl, fun _ _ _ => (aGo_s rfl).trans rfl, fun _ _ _ => (aGo_s rfl).trans rfl, fun _ _ _ => (aGo_s rfl).trans rfl, fun _ _ _ => (aGo_s rfl).trans rfl, fun _ _ _ => (aGo_s rfl).trans rfl, fun _ _ _ => (aGo_s rfl).trans rfl, fun _ _ _ => (aGo_s rfl).trans rfl, fun _ _ _ => (aGo_s rfl).trans rfl, fun _ _ _ => (aGo_s rfl).trans rfl, fun _ _ _ => (aGo_s rfl).trans rfl, fun _ _ _ => (aGo_s rfl).trans rfl, fun _ _ _ => (aGo_s rfl).trans rfl, fun _ _ _ => (aGo_s rfl).trans rfl, fun _ _ _ => (aGo_s rfl).trans rfl, fun _ _ _ => (aGo_s rfl).trans rfl, fun _ _ _ => (aGo_s rfl).trans rfl, fun _ _ _ => (aGo_s rfl).trans rfl⟩
theorem e_226 {d : Nat} {x0 : Nat} {x1 : Int32} {x2 : Int32} {x3 : Int32} {H : aH} : aCall aMt (d + 1) 226 [.ref x0, .int x1, .int x2, .int x3] H = aGo (aCall aMt d) none cd_226 0 0 [some (.ref x0), some (.int x1), some (.int x2), some (.int x3)] [] H := (c_0 rfl ⟨rfl, Nat.le_of_ble_eq_true rfl, Nat.le_of_ble_eq_true rfl⟩).trans rfl
theorem s_227 {cl : Nat → List Value → aH → aRs} : (∀ ls st H, aGo cl none cd_227 1 0 ls st H = aILoad (fun st => aGo cl none cd_227 1 1 ls st H) ls 0 st) ∧
  (∀ ls st H, aGo cl none cd_227 1 1 ls st H = aIf (fun p st => aGo cl none cd_227 1 p ls st H) .lt 15 4 st) ∧
  (∀ ls st H, aGo cl none cd_227 1 4 ls st H = aILoad (fun st => aGo cl none cd_227 1 5 ls st H) ls 0 st) ∧
  (∀ ls st H, aGo cl none cd_227 1 5 ls st H = aGo cl none cd_227 1 8 ls (.int 255 :: st) H) ∧
  (∀ ls st H, aGo cl none cd_227 1 8 ls st H = aIc (fun p st => aGo cl none cd_227 1 p ls st H) .gt 15 11 st) ∧
  (∀ ls st H, aGo cl none cd_227 1 11 ls st H = aGo cl none cd_227 1 12 ls (.int 1 :: st) H) ∧
  (∀ ls st H, aGo cl none cd_227 1 12 ls st H = aGo cl none cd_227 1 16 ls st H) ∧
  (∀ ls st H, aGo cl none cd_227 1 15 ls st H = aGo cl none cd_227 1 16 ls (.int 0 :: st) H) ∧
  (∀ ls st H, aGo cl none cd_227 1 16 ls st H = aIret 1 st H) :=
  ⟨fun _ _ _ => (aGo_s rfl).trans rfl, fun _ _ _ => (aGo_s rfl).trans rfl, fun _ _ _ => (aGo_s rfl).trans rfl, fun _ _ _ => (aGo_s rfl).trans rfl, fun _ _ _ => (aGo_s rfl).trans rfl, fun _ _ _ => (aGo_s rfl).trans rfl, fun _ _ _ => (aGo_s rfl).trans rfl, fun _ _ _ => (aGo_s rfl).trans rfl, fun _ _ _ => (aGo_s rfl).trans rfl⟩
theorem e_227 {d : Nat} {x0 : Int32} {H : aH} : aCall aMt (d + 1) 227 [.int x0] H = aGo (aCall aMt d) none cd_227 1 0 [some (.int x0)] [] H := (c_0 rfl ⟨rfl, Nat.le_of_ble_eq_true rfl, Nat.le_of_ble_eq_true rfl⟩).trans rfl
theorem s_228 {cl : Nat → List Value → aH → aRs} : (∀ ls st H, aGo cl none cd_228 0 0 ls st H = aILoad (fun st => aGo cl none cd_228 0 1 ls st H) ls 1 st) ∧
  (∀ ls st H, aGo cl none cd_228 0 1 ls st H = aUn (fun st => aGo cl none cd_228 0 2 ls st H) (fun x => x.toInt8.toInt32) st) ∧
  (∀ ls st H, aGo cl none cd_228 0 2 ls st H = aIStore (fun ls st => aGo cl none cd_228 0 4 ls st H) ls 4 st) ∧
  (∀ ls st H, aGo cl none cd_228 0 4 ls st H = aILoad (fun st => aGo cl none cd_228 0 5 ls st H) ls 2 st) ∧
  (∀ ls st H, aGo cl none cd_228 0 5 ls st H = aIStore (fun ls st => aGo cl none cd_228 0 7 ls st H) ls 5 st) ∧
  (∀ ls st H, aGo cl none cd_228 0 9 ls st H = aILoad (fun st => aGo cl none cd_228 0 10 ls st H) ls 3 st) ∧
  (∀ ls st H, aGo cl none cd_228 0 10 ls st H = aIc (fun p st => aGo cl none cd_228 0 p ls st H) .ge 31 13 st) ∧
  (∀ ls st H, aGo cl none cd_228 0 13 ls st H = aRLoad (fun st => aGo cl none cd_228 0 14 ls st H) ls 0 st) ∧
  (∀ ls st H, aGo cl none cd_228 0 14 ls st H = aILoad (fun st => aGo cl none cd_228 0 16 ls st H) ls 5 st) ∧
  (∀ ls st H, aGo cl none cd_228 0 16 ls st H = aBald (fun st => aGo cl none cd_228 0 17 ls st H) H st) ∧
  (∀ ls st H, aGo cl none cd_228 0 17 ls st H = aILoad (fun st => aGo cl none cd_228 0 19 ls st H) ls 4 st) ∧
  (∀ ls st H, aGo cl none cd_228 0 19 ls st H = aIc (fun p st => aGo cl none cd_228 0 p ls st H) .ne 25 22 st) ∧
  (∀ ls st H, aGo cl none cd_228 0 22 ls st H = aILoad (fun st => aGo cl none cd_228 0 24 ls st H) ls 5 st) ∧
  (∀ ls st H, aGo cl none cd_228 0 24 ls st H = aIret 0 st H) ∧
  (∀ ls st H, aGo cl none cd_228 0 25 ls st H = aInc (fun ls => aGo cl none cd_228 0 28 ls st H) ls 5 1) ∧
  (∀ ls st H, aGo cl none cd_228 0 28 ls st H = aGo cl none cd_228 0 7 ls st H) ∧
  (∀ ls st H, aGo cl none cd_228 0 31 ls st H = aGo cl none cd_228 0 32 ls (.int (-1) :: st) H) ∧
  (∀ ls st H, aGo cl none cd_228 0 32 ls st H = aIret 0 st H) :=
  ⟨fun _ _ _ => (aGo_s rfl).trans rfl, fun _ _ _ => (aGo_s rfl).trans rfl, fun _ _ _ => (aGo_s rfl).trans rfl, fun _ _ _ => (aGo_s rfl).trans rfl, fun _ _ _ => (aGo_s rfl).trans rfl, fun _ _ _ => (aGo_s rfl).trans rfl, fun _ _ _ => (aGo_s rfl).trans rfl, fun _ _ _ => (aGo_s rfl).trans rfl, fun _ _ _ => (aGo_s rfl).trans rfl, fun _ _ _ => (aGo_s rfl).trans rfl, fun _ _ _ => (aGo_s rfl).trans rfl, fun _ _ _ => (aGo_s rfl).trans rfl, fun _ _ _ => (aGo_s rfl).trans rfl, fun _ _ _ => (aGo_s rfl).trans rfl, fun _ _ _ => (aGo_s rfl).trans rfl, fun _ _ _ => (aGo_s rfl).trans rfl, fun _ _ _ => (aGo_s rfl).trans rfl, fun _ _ _ => (aGo_s rfl).trans rfl⟩
theorem s_228_7 {cl : Nat → List Value → aH → aRs} : ∀ ls st H, aGo cl none cd_228 0 7 ls st H = aILoad (fun st => aGo cl none cd_228 0 9 ls st H) ls 5 st := fun _ _ _ => (aGo_s rfl).trans rfl
theorem e_228 {d : Nat} {x0 : Nat} {x1 : Int32} {x2 : Int32} {x3 : Int32} {H : aH} : aCall aMt (d + 1) 228 [.ref x0, .int x1, .int x2, .int x3] H = aGo (aCall aMt d) none cd_228 0 0 [some (.ref x0), some (.int x1), some (.int x2), some (.int x3), none, none] [] H := (c_0 rfl ⟨rfl, Nat.le_of_ble_eq_true rfl, Nat.le_of_ble_eq_true rfl⟩).trans rfl
