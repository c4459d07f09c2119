/-! rewriting rows: an instruction a row; loop heads stand alone (by program) -/
theorem c_0 {mt : List aMeth} {d x : Nat} {vs : List Value} {H : aH} {q : aMeth} (hq : mt[x]? = some q) (h : vs.length = q.2.2.2.2.2.1 ∧ (aArgs vs).length ≤ q.2.2.1 ∧ q.2.2.1 ≤ 13) : aCall mt (d + 1) x vs H = aGo (aCall mt d) none q.2.2.2.2.2.2.2 (aRt q.2.2.2.1) 0 (aInit vs q.2.2.1) [] H := by
  rw [aCall, hq]; exact if_pos h

theorem s_1 {cl : Nat → List Value → aH → aRs} : (∀ ls st H, aGo cl none cd_1 3 0 ls st H = aRLoad (fun st => aGo cl none cd_1 3 1 ls st H) ls 0 st) ∧
  (∀ ls st H, aGo cl none cd_1 3 1 ls st H = aRLoad (fun st => aGo cl none cd_1 3 2 ls st H) ls 1 st) ∧
  (∀ ls st H, aGo cl none cd_1 3 2 ls st H = aGet (fun st => aGo cl none cd_1 3 5 ls st H) 0 6 H st) ∧
  (∀ ls st H, aGo cl none cd_1 3 5 ls st H = aPut (fun st H => aGo cl none cd_1 3 8 ls st H) 0 6 H st) ∧
  (∀ ls st H, aGo cl none cd_1 3 8 ls st H = aRLoad (fun st => aGo cl none cd_1 3 9 ls st H) ls 0 st) ∧
  (∀ ls st H, aGo cl none cd_1 3 9 ls st H = aRLoad (fun st => aGo cl none cd_1 3 10 ls st H) ls 1 st) ∧
  (∀ ls st H, aGo cl none cd_1 3 10 ls st H = aGet (fun st => aGo cl none cd_1 3 13 ls st H) 0 7 H st) ∧
  (∀ ls st H, aGo cl none cd_1 3 13 ls st H = aPut (fun st H => aGo cl none cd_1 3 16 ls st H) 0 7 H st) ∧
  (∀ ls st H, aGo cl none cd_1 3 16 ls st H = aRLoad (fun st => aGo cl none cd_1 3 17 ls st H) ls 0 st) ∧
  (∀ ls st H, aGo cl none cd_1 3 17 ls st H = aRLoad (fun st => aGo cl none cd_1 3 18 ls st H) ls 1 st) ∧
  (∀ ls st H, aGo cl none cd_1 3 18 ls st H = aGet (fun st => aGo cl none cd_1 3 21 ls st H) 0 8 H st) ∧
  (∀ ls st H, aGo cl none cd_1 3 21 ls st H = aPut (fun st H => aGo cl none cd_1 3 24 ls st H) 0 8 H st) ∧
  (∀ ls st H, aGo cl none cd_1 3 24 ls st H = aRLoad (fun st => aGo cl none cd_1 3 25 ls st H) ls 0 st) ∧
  (∀ ls st H, aGo cl none cd_1 3 25 ls st H = aRLoad (fun st => aGo cl none cd_1 3 26 ls st H) ls 1 st) ∧
  (∀ ls st H, aGo cl none cd_1 3 26 ls st H = aGet (fun st => aGo cl none cd_1 3 29 ls st H) 0 9 H st) ∧
  (∀ ls st H, aGo cl none cd_1 3 29 ls st H = aPut (fun st H => aGo cl none cd_1 3 32 ls st H) 0 9 H st) ∧
  (∀ ls st H, aGo cl none cd_1 3 32 ls st H = aRLoad (fun st => aGo cl none cd_1 3 33 ls st H) ls 0 st) ∧
  (∀ ls st H, aGo cl none cd_1 3 33 ls st H = aRLoad (fun st => aGo cl none cd_1 3 34 ls st H) ls 1 st) ∧
  (∀ ls st H, aGo cl none cd_1 3 34 ls st H = aGet (fun st => aGo cl none cd_1 3 37 ls st H) 0 10 H st) ∧
  (∀ ls st H, aGo cl none cd_1 3 37 ls st H = aPut (fun st H => aGo cl none cd_1 3 40 ls st H) 0 10 H st) ∧
  (∀ ls st H, aGo cl none cd_1 3 40 ls st H = aRLoad (fun st => aGo cl none cd_1 3 41 ls st H) ls 0 st) ∧
  (∀ ls st H, aGo cl none cd_1 3 41 ls st H = aRLoad (fun st => aGo cl none cd_1 3 42 ls st H) ls 1 st) ∧
  (∀ ls st H, aGo cl none cd_1 3 42 ls st H = aGet (fun st => aGo cl none cd_1 3 45 ls st H) 0 11 H st) ∧
  (∀ ls st H, aGo cl none cd_1 3 45 ls st H = aPut (fun st H => aGo cl none cd_1 3 48 ls st H) 0 11 H st) ∧
  (∀ ls st H, aGo cl none cd_1 3 48 ls st H = aRLoad (fun st => aGo cl none cd_1 3 49 ls st H) ls 0 st) ∧
  (∀ ls st H, aGo cl none cd_1 3 49 ls st H = aRLoad (fun st => aGo cl none cd_1 3 50 ls st H) ls 1 st) ∧
  (∀ ls st H, aGo cl none cd_1 3 50 ls st H = aGet (fun st => aGo cl none cd_1 3 53 ls st H) 0 12 H st) ∧
  (∀ ls st H, aGo cl none cd_1 3 53 ls st H = aPut (fun st H => aGo cl none cd_1 3 56 ls st H) 0 12 H st) ∧
  (∀ ls st H, aGo cl none cd_1 3 56 ls st H = aRLoad (fun st => aGo cl none cd_1 3 57 ls st H) ls 0 st) ∧
  (∀ ls st H, aGo cl none cd_1 3 57 ls st H = aRLoad (fun st => aGo cl none cd_1 3 58 ls st H) ls 1 st) ∧
  (∀ ls st H, aGo cl none cd_1 3 58 ls st H = aGet (fun st => aGo cl none cd_1 3 61 ls st H) 0 13 H st) ∧
  (∀ ls st H, aGo cl none cd_1 3 61 ls st H = aPut (fun st H => aGo cl none cd_1 3 64 ls st H) 0 13 H st) ∧
  (∀ ls st H, aGo cl none cd_1 3 64 ls st H = aRLoad (fun st => aGo cl none cd_1 3 65 ls st H) ls 0 st) ∧
  (∀ ls st H, aGo cl none cd_1 3 65 ls st H = aRLoad (fun st => aGo cl none cd_1 3 66 ls st H) ls 1 st) ∧
  (∀ ls st H, aGo cl none cd_1 3 66 ls st H = aGet (fun st => aGo cl none cd_1 3 69 ls st H) 0 14 H st) ∧
  (∀ ls st H, aGo cl none cd_1 3 69 ls st H = aPut (fun st H => aGo cl none cd_1 3 72 ls st H) 0 14 H st) ∧
  (∀ ls st H, aGo cl none cd_1 3 72 ls st H = aGo cl none cd_1 3 73 ls (.int 0 :: st) H) ∧
  (∀ ls st H, aGo cl none cd_1 3 73 ls st H = aIStore (fun ls st => aGo cl none cd_1 3 74 ls st H) ls 2 st) ∧
  (∀ ls st H, aGo cl none cd_1 3 75 ls st H = aRLoad (fun st => aGo cl none cd_1 3 76 ls st H) ls 0 st) ∧
  (∀ ls st H, aGo cl none cd_1 3 76 ls st H = aGet (fun st => aGo cl none cd_1 3 79 ls st H) 0 6 H st) ∧
  (∀ ls st H, aGo cl none cd_1 3 79 ls st H = aIc (fun p st => aGo cl none cd_1 3 p ls st H) .ge 103 82 st) ∧
  (∀ ls st H, aGo cl none cd_1 3 82 ls st H = aRLoad (fun st => aGo cl none cd_1 3 83 ls st H) ls 0 st) ∧
  (∀ ls st H, aGo cl none cd_1 3 83 ls st H = aGet (fun st => aGo cl none cd_1 3 86 ls st H) 0 0 H st) ∧
  (∀ ls st H, aGo cl none cd_1 3 86 ls st H = aILoad (fun st => aGo cl none cd_1 3 87 ls st H) ls 2 st) ∧
  (∀ ls st H, aGo cl none cd_1 3 87 ls st H = aAald (fun st => aGo cl none cd_1 3 88 ls st H) H st) ∧
  (∀ ls st H, aGo cl none cd_1 3 88 ls st H = aRLoad (fun st => aGo cl none cd_1 3 89 ls st H) ls 1 st) ∧
  (∀ ls st H, aGo cl none cd_1 3 89 ls st H = aGet (fun st => aGo cl none cd_1 3 92 ls st H) 0 0 H st) ∧
  (∀ ls st H, aGo cl none cd_1 3 92 ls st H = aILoad (fun st => aGo cl none cd_1 3 93 ls st H) ls 2 st) ∧
  (∀ ls st H, aGo cl none cd_1 3 93 ls st H = aAald (fun st => aGo cl none cd_1 3 94 ls st H) H st) ∧
  (∀ ls st H, aGo cl none cd_1 3 94 ls st H = aCallV (fun st H => aGo cl none cd_1 3 97 ls st H) cl 31 1 2 H st) ∧
  (∀ ls st H, aGo cl none cd_1 3 97 ls st H = aInc (fun ls => aGo cl none cd_1 3 100 ls st H) ls 2 1) ∧
  (∀ ls st H, aGo cl none cd_1 3 100 ls st H = aGo cl none cd_1 3 74 ls st H) ∧
  (∀ ls st H, aGo cl none cd_1 3 103 ls st H = aGo cl none cd_1 3 104 ls (.int 0 :: st) H) ∧
  (∀ ls st H, aGo cl none cd_1 3 104 ls st H = aIStore (fun ls st => aGo cl none cd_1 3 105 ls st H) ls 2 st) ∧
  (∀ ls st H, aGo cl none cd_1 3 106 ls st H = aRLoad (fun st => aGo cl none cd_1 3 107 ls st H) ls 0 st) ∧
  (∀ ls st H, aGo cl none cd_1 3 107 ls st H = aGet (fun st => aGo cl none cd_1 3 110 ls st H) 0 7 H st) ∧
  (∀ ls st H, aGo cl none cd_1 3 110 ls st H = aIc (fun p st => aGo cl none cd_1 3 p ls st H) .ge 134 113 st) ∧
  (∀ ls st H, aGo cl none cd_1 3 113 ls st H = aRLoad (fun st => aGo cl none cd_1 3 114 ls st H) ls 0 st) ∧
  (∀ ls st H, aGo cl none cd_1 3 114 ls st H = aGet (fun st => aGo cl none cd_1 3 117 ls st H) 0 1 H st) ∧
  (∀ ls st H, aGo cl none cd_1 3 117 ls st H = aILoad (fun st => aGo cl none cd_1 3 118 ls st H) ls 2 st) ∧
  (∀ ls st H, aGo cl none cd_1 3 118 ls st H = aAald (fun st => aGo cl none cd_1 3 119 ls st H) H st) ∧
  (∀ ls st H, aGo cl none cd_1 3 119 ls st H = aRLoad (fun st => aGo cl none cd_1 3 120 ls st H) ls 1 st) ∧
  (∀ ls st H, aGo cl none cd_1 3 120 ls st H = aGet (fun st => aGo cl none cd_1 3 123 ls st H) 0 1 H st) ∧
  (∀ ls st H, aGo cl none cd_1 3 123 ls st H = aILoad (fun st => aGo cl none cd_1 3 124 ls st H) ls 2 st) ∧
  (∀ ls st H, aGo cl none cd_1 3 124 ls st H = aAald (fun st => aGo cl none cd_1 3 125 ls st H) H st) ∧
  (∀ ls st H, aGo cl none cd_1 3 125 ls st H = aCallV (fun st H => aGo cl none cd_1 3 128 ls st H) cl 52 1 5 H st) ∧
  (∀ ls st H, aGo cl none cd_1 3 128 ls st H = aInc (fun ls => aGo cl none cd_1 3 131 ls st H) ls 2 1) ∧
  (∀ ls st H, aGo cl none cd_1 3 131 ls st H = aGo cl none cd_1 3 105 ls st H) ∧
  (∀ ls st H, aGo cl none cd_1 3 134 ls st H = aRLoad (fun st => aGo cl none cd_1 3 135 ls st H) ls 0 st) ∧
  (∀ ls st H, aGo cl none cd_1 3 135 ls st H = aGet (fun st => aGo cl none cd_1 3 138 ls st H) 0 2 H st) ∧
  (∀ ls st H, aGo cl none cd_1 3 138 ls st H = aRLoad (fun st => aGo cl none cd_1 3 139 ls st H) ls 1 st) ∧
  (∀ ls st H, aGo cl none cd_1 3 139 ls st H = aGet (fun st => aGo cl none cd_1 3 142 ls st H) 0 2 H st) ∧
  (∀ ls st H, aGo cl none cd_1 3 142 ls st H = aCallV (fun st H => aGo cl none cd_1 3 145 ls st H) cl 22 1 1 H st) ∧
  (∀ ls st H, aGo cl none cd_1 3 145 ls st H = aRLoad (fun st => aGo cl none cd_1 3 146 ls st H) ls 0 st) ∧
  (∀ ls st H, aGo cl none cd_1 3 146 ls st H = aGet (fun st => aGo cl none cd_1 3 149 ls st H) 0 3 H st) ∧
  (∀ ls st H, aGo cl none cd_1 3 149 ls st H = aRLoad (fun st => aGo cl none cd_1 3 150 ls st H) ls 1 st) ∧
  (∀ ls st H, aGo cl none cd_1 3 150 ls st H = aGet (fun st => aGo cl none cd_1 3 153 ls st H) 0 3 H st) ∧
  (∀ ls st H, aGo cl none cd_1 3 153 ls st H = aCallV (fun st H => aGo cl none cd_1 3 156 ls st H) cl 22 1 1 H st) ∧
  (∀ ls st H, aGo cl none cd_1 3 156 ls st H = aRLoad (fun st => aGo cl none cd_1 3 157 ls st H) ls 1 st) ∧
  (∀ ls st H, aGo cl none cd_1 3 157 ls st H = aGet (fun st => aGo cl none cd_1 3 160 ls st H) 0 4 H st) ∧
  (∀ ls st H, aGo cl none cd_1 3 160 ls st H = aGo cl none cd_1 3 161 ls (.int 0 :: st) H) ∧
  (∀ ls st H, aGo cl none cd_1 3 161 ls st H = aRLoad (fun st => aGo cl none cd_1 3 162 ls st H) ls 0 st) ∧
  (∀ ls st H, aGo cl none cd_1 3 162 ls st H = aGet (fun st => aGo cl none cd_1 3 165 ls st H) 0 4 H st) ∧
  (∀ ls st H, aGo cl none cd_1 3 165 ls st H = aGo cl none cd_1 3 166 ls (.int 0 :: st) H) ∧
  (∀ ls st H, aGo cl none cd_1 3 166 ls st H = aGo cl none cd_1 3 168 ls (.int 60 :: st) H) ∧
  (∀ ls st H, aGo cl none cd_1 3 168 ls st H = aCopy (fun st H => aGo cl none cd_1 3 171 ls st H) H st) ∧
  (∀ ls st H, aGo cl none cd_1 3 171 ls st H = aRLoad (fun st => aGo cl none cd_1 3 172 ls st H) ls 1 st) ∧
  (∀ ls st H, aGo cl none cd_1 3 172 ls st H = aGet (fun st => aGo cl none cd_1 3 175 ls st H) 0 5 H st) ∧
  (∀ ls st H, aGo cl none cd_1 3 175 ls st H = aGo cl none cd_1 3 176 ls (.int 0 :: st) H) ∧
  (∀ ls st H, aGo cl none cd_1 3 176 ls st H = aRLoad (fun st => aGo cl none cd_1 3 177 ls st H) ls 0 st) ∧
  (∀ ls st H, aGo cl none cd_1 3 177 ls st H = aGet (fun st => aGo cl none cd_1 3 180 ls st H) 0 5 H st) ∧
  (∀ ls st H, aGo cl none cd_1 3 180 ls st H = aGo cl none cd_1 3 181 ls (.int 0 :: st) H) ∧
  (∀ ls st H, aGo cl none cd_1 3 181 ls st H = aGo cl none cd_1 3 183 ls (.int 24 :: st) H) ∧
  (∀ ls st H, aGo cl none cd_1 3 183 ls st H = aCopy (fun st H => aGo cl none cd_1 3 186 ls st H) H st) ∧
  (∀ ls st H, aGo cl none cd_1 3 186 ls st H = aVret 3 st H) :=
  ⟨fun _ _ _ => (aGo_s rfl).trans rfl, fun _ _ _ => (aGo_s rfl).trans rfl, fun _ _ _ => (aGo_s rfl).trans rfl, fun _ _ _ => (aGo_s rfl).trans rfl, fun _ _ _ => (aGo_s rfl).trans rfl, fun _ _ _ => (aGo_s rfl).trans rfl, fun _ _ _ => (aGo_s rfl).trans rfl, fun _ _ _ => (aGo_s rfl).trans rfl, fun _ _ _ => (aGo_s rfl).trans rfl, fun _ _ _ => (aGo_s rfl).trans rfl, fun _ _ _ => (aGo_s rfl).trans rfl, fun _ _ _ => (aGo_s rfl).trans rfl, fun _ _ _ => (aGo_s rfl).trans rfl, fun _ _ _ => (aGo_s rfl).trans rfl, fun _ _ _ => (aGo_s rfl).trans rfl, fun _ _ _ => (aGo_s rfl).trans rfl, fun _ _ _ => (aGo_s rfl).trans rfl, fun _ _ _ => (aGo_s rfl).trans rfl, fun _ _ _ => (aGo_s rfl).trans rfl, fun _ _ _ => (aGo_s rfl).trans rfl, fun _ _ _ => (aGo_s rfl).trans rfl, fun _ _ _ => (aGo_s rfl).trans rfl, fun _ _ _ => (aGo_s rfl).trans rfl, fun _ _ _ => (aGo_s rfl).trans rfl, fun _ _ _ => (aGo_s rfl).trans rfl, fun _ _ _ => (aGo_s rfl).trans rfl, fun _ _ _ => (aGo_s rfl).trans rfl, fun _ _ _ => (aGo_s rfl).trans rfl, fun _ _ _ => (aGo_s rfl).trans rfl, fun _ _ _ => (aGo_s rfl).trans rfl, fun _ _ _ => (aGo_s rfl).trans rfl, fun _ _ _ => (aGo_s rfl).trans rfl, fun _ _ _ => (aGo_s rfl).trans rfl, fun _ _ _ => (aGo_s rfl).trans rfl, fun _ _ _ => (aGo_s rfl).trans rfl, fun _ _ _ => (aGo_s rfl).trans rfl, fun _ _ _ => (aGo_s rfl).trans rfl, fun _ _ _ => (aGo_s rfl).trans rfl, fun _ _ _ => (aGo_s rfl).trans rfl, fun _ _ _ => (aGo_s rfl).trans rfl, fun _ _ _ => (aGo_s rfl).trans rfl, fun _ _ _ => (aGo_s rfl).trans rfl, fun _ _ _ => (aGo_s rfl).trans rfl, fun _ _ _ => (aGo_s rfl).trans rfl, fun _ _ _ => (aGo_s rfl).trans rfl, fun _ _ _ => (aGo_s rfl).trans rfl, fun _ _ _ => (aGo_s rfl).trans rfl, fun _ _ _ => (aGo_s rfl).trans rfl, fun _ _ _ => (aGo_s rfl).trans rfl, fun _ _ _ => (aGo_s rfl).trans rfl, fun _ _ _ => (aGo_s rfl).trans rfl, fun _ _ _ => (aGo_s rfl).trans rfl, fun _ _ _ => (aGo_s rfl).trans rfl, fun _ _ _ => (aGo_s rfl).trans rfl, fun _ _ _ => (aGo_s rfl).trans rfl, fun _ _ _ => (aGo_s rfl).trans rfl, fun _ _ _ => (aGo_s rfl).trans rfl, fun _ _ _ => (aGo_s rfl).trans rfl, fun _ _ _ => (aGo_s rfl).trans rfl, fun _ _ _ => (aGo_s rfl).trans rfl, fun _ _ _ => (aGo_s rfl).trans rfl, fun _ _ _ => (aGo_s rfl).trans rfl, fun _ _ _ => (aGo_s rfl).trans rfl, fun _ _ _ => (aGo_s rfl).trans rfl, fun _ _ _ => (aGo_s rfl).trans rfl, fun _ _ _ => (aGo_s rfl).trans rfl, fun _ _ _ => (aGo_s rfl).trans rfl, fun _ _ _ => (aGo_s rfl).trans rfl, fun _ _ _ => (aGo_s rfl).trans rfl, fun _ _ _ => (aGo_s rfl).trans rfl, fun _ _ _ => (aGo_s rfl).trans rfl, fun _ _ _ => (aGo_s rfl).trans rfl, fun _ _ _ => (aGo_s rfl).trans rfl, fun _ _ _ => (aGo_s rfl).trans rfl, fun _ _ _ => (aGo_s rfl).trans rfl, fun _ _ _ => (aGo_s rfl).trans rfl, fun _ _ _ => (aGo_s rfl).trans rfl, fun _ _ _ => (aGo_s rfl).trans rfl, fun _ _ _ => (aGo_s rfl).trans rfl, fun _ _ _ => (aGo_s rfl).trans rfl, fun _ _ _ => (aGo_s rfl).trans rfl, fun _ _ _ => (aGo_s rfl).trans rfl, fun _ _ _ => (aGo_s rfl).trans rfl, fun _ _ _ => (aGo_s rfl).trans rfl, fun _ _ _ => (aGo_s rfl).trans rfl, fun _ _ _ => (aGo_s rfl).trans rfl, fun _ _ _ => (aGo_s rfl).trans rfl, fun _ _ _ => (aGo_s rfl).trans rfl, fun _ _ _ => (aGo_s rfl).trans rfl, fun _ _ _ => (aGo_s rfl).trans rfl, fun _ _ _ => (aGo_s rfl).trans rfl, fun _ _ _ => (aGo_s rfl).trans rfl, fun _ _ _ => (aGo_s rfl).trans rfl, fun _ _ _ => (aGo_s rfl).trans rfl, fun _ _ _ => (aGo_s rfl).trans rfl⟩
theorem s_1_74 {cl : Nat → List Value → aH → aRs} : ∀ ls st H, aGo cl none cd_1 3 74 ls st H = aILoad (fun st => aGo cl none cd_1 3 75 ls st H) ls 2 st := fun _ _ _ => (aGo_s rfl).trans rfl
theorem s_1_105 {cl : Nat → List Value → aH → aRs} : ∀ ls st H, aGo cl none cd_1 3 105 ls st H = aILoad (fun st => aGo cl none cd_1 3 106 ls st H) ls 2 st := fun _ _ _ => (aGo_s rfl).trans rfl
theorem e_1 {d : Nat} {x0 : Nat} {x1 : Nat} {H : aH} : aCall aMt (d + 1) 1 [.ref x0, .ref x1] H = aGo (aCall aMt d) none cd_1 3 0 [some (.ref x0), some (.ref x1), none] [] H := (c_0 rfl ⟨rfl, Nat.le_of_ble_eq_true rfl, Nat.le_of_ble_eq_true rfl⟩).trans rfl
theorem s_2 {cl : Nat → List Value → aH → aRs} : (∀ ls st H, aGo cl none cd_2 2 0 ls st H = aILoad (fun st => aGo cl none cd_2 2 1 ls st H) ls 1 st) ∧
  (∀ ls st H, aGo cl none cd_2 2 1 ls st H = aGo cl none cd_2 2 2 ls (.int 0 :: st) H) ∧
  (∀ ls st H, aGo cl none cd_2 2 2 ls st H = aRLoad (fun st => aGo cl none cd_2 2 3 ls st H) ls 0 st) ∧
  (∀ ls st H, aGo cl none cd_2 2 3 ls st H = aGet (fun st => aGo cl none cd_2 2 6 ls st H) 0 6 H st) ∧
  (∀ ls st H, aGo cl none cd_2 2 6 ls st H = aGo cl none cd_2 2 7 ls (.int 1 :: st) H) ∧
  (∀ ls st H, aGo cl none cd_2 2 7 ls st H = aBin (fun st => aGo cl none cd_2 2 8 ls st H) (fun x y => x - y) st) ∧
  (∀ ls st H, aGo cl none cd_2 2 8 ls st H = aCallI (fun st H => aGo cl none cd_2 2 11 ls st H) cl 106 3 H st) ∧
  (∀ ls st H, aGo cl none cd_2 2 11 ls st H = aIf (fun p st => aGo cl none cd_2 2 p ls st H) .eq 23 14 st) ∧
  (∀ ls st H, aGo cl none cd_2 2 14 ls st H = aRLoad (fun st => aGo cl none cd_2 2 15 ls st H) ls 0 st) ∧
  (∀ ls st H, aGo cl none cd_2 2 15 ls st H = aGet (fun st => aGo cl none cd_2 2 18 ls st H) 0 0 H st) ∧
  (∀ ls st H, aGo cl none cd_2 2 18 ls st H = aILoad (fun st => aGo cl none cd_2 2 19 ls st H) ls 1 st) ∧
  (∀ ls st H, aGo cl none cd_2 2 19 ls st H = aAald (fun st => aGo cl none cd_2 2 20 ls st H) H st) ∧
  (∀ ls st H, aGo cl none cd_2 2 20 ls st H = aGo cl none cd_2 2 24 ls st H) ∧
  (∀ ls st H, aGo cl none cd_2 2 23 ls st H = aGo cl none cd_2 2 24 ls (.null :: st) H) ∧
  (∀ ls st H, aGo cl none cd_2 2 24 ls st H = aAret 2 st H) :=
  ⟨fun _ _ _ => (aGo_s rfl).trans rfl, fun _ _ _ => (aGo_s rfl).trans rfl, fun _ _ _ => (aGo_s rfl).trans rfl, fun _ _ _ => (aGo_s rfl).trans rfl, fun _ _ _ => (aGo_s rfl).trans rfl, fun _ _ _ => (aGo_s rfl).trans rfl, fun _ _ _ => (aGo_s rfl).trans rfl, fun _ _ _ => (aGo_s rfl).trans rfl, fun _ _ _ => (aGo_s rfl).trans rfl, fun _ _ _ => (aGo_s rfl).trans rfl, fun _ _ _ => (aGo_s rfl).trans rfl, fun _ _ _ => (aGo_s rfl).trans rfl, fun _ _ _ => (aGo_s rfl).trans rfl, fun _ _ _ => (aGo_s rfl).trans rfl, fun _ _ _ => (aGo_s rfl).trans rfl⟩
theorem e_2 {d : Nat} {x0 : Nat} {x1 : Int32} {H : aH} : aCall aMt (d + 1) 2 [.ref x0, .int x1] H = aGo (aCall aMt d) none cd_2 2 0 [some (.ref x0), some (.int x1)] [] H := (c_0 rfl ⟨rfl, Nat.le_of_ble_eq_true rfl, Nat.le_of_ble_eq_true rfl⟩).trans rfl
theorem s_3 {cl : Nat → List Value → aH → aRs} : (∀ ls st H, aGo cl none cd_3 2 0 ls st H = aILoad (fun st => aGo cl none cd_3 2 1 ls st H) ls 1 st) ∧
  (∀ ls st H, aGo cl none cd_3 2 1 ls st H = aGo cl none cd_3 2 2 ls (.int 0 :: st) H) ∧
  (∀ ls st H, aGo cl none cd_3 2 2 ls st H = aRLoad (fun st => aGo cl none cd_3 2 3 ls st H) ls 0 st) ∧
  (∀ ls st H, aGo cl none cd_3 2 3 ls st H = aGet (fun st => aGo cl none cd_3 2 6 ls st H) 0 7 H st) ∧
  (∀ ls st H, aGo cl none cd_3 2 6 ls st H = aGo cl none cd_3 2 7 ls (.int 1 :: st) H) ∧
  (∀ ls st H, aGo cl none cd_3 2 7 ls st H = aBin (fun st => aGo cl none cd_3 2 8 ls st H) (fun x y => x - y) st) ∧
  (∀ ls st H, aGo cl none cd_3 2 8 ls st H = aCallI (fun st H => aGo cl none cd_3 2 11 ls st H) cl 106 3 H st) ∧
  (∀ ls st H, aGo cl none cd_3 2 11 ls st H = aIf (fun p st => aGo cl none cd_3 2 p ls st H) .eq 23 14 st) ∧
  (∀ ls st H, aGo cl none cd_3 2 14 ls st H = aRLoad (fun st => aGo cl none cd_3 2 15 ls st H) ls 0 st) ∧
  (∀ ls st H, aGo cl none cd_3 2 15 ls st H = aGet (fun st => aGo cl none cd_3 2 18 ls st H) 0 1 H st) ∧
  (∀ ls st H, aGo cl none cd_3 2 18 ls st H = aILoad (fun st => aGo cl none cd_3 2 19 ls st H) ls 1 st) ∧
  (∀ ls st H, aGo cl none cd_3 2 19 ls st H = aAald (fun st => aGo cl none cd_3 2 20 ls st H) H st) ∧
  (∀ ls st H, aGo cl none cd_3 2 20 ls st H = aGo cl none cd_3 2 24 ls st H) ∧
  (∀ ls st H, aGo cl none cd_3 2 23 ls st H = aGo cl none cd_3 2 24 ls (.null :: st) H) ∧
  (∀ ls st H, aGo cl none cd_3 2 24 ls st H = aAret 2 st H) :=
  ⟨fun _ _ _ => (aGo_s rfl).trans rfl, fun _ _ _ => (aGo_s rfl).trans rfl, fun _ _ _ => (aGo_s rfl).trans rfl, fun _ _ _ => (aGo_s rfl).trans rfl, fun _ _ _ => (aGo_s rfl).trans rfl, fun _ _ _ => (aGo_s rfl).trans rfl, fun _ _ _ => (aGo_s rfl).trans rfl, fun _ _ _ => (aGo_s rfl).trans rfl, fun _ _ _ => (aGo_s rfl).trans rfl, fun _ _ _ => (aGo_s rfl).trans rfl, fun _ _ _ => (aGo_s rfl).trans rfl, fun _ _ _ => (aGo_s rfl).trans rfl, fun _ _ _ => (aGo_s rfl).trans rfl, fun _ _ _ => (aGo_s rfl).trans rfl, fun _ _ _ => (aGo_s rfl).trans rfl⟩
theorem e_3 {d : Nat} {x0 : Nat} {x1 : Int32} {H : aH} : aCall aMt (d + 1) 3 [.ref x0, .int x1] H = aGo (aCall aMt d) none cd_3 2 0 [some (.ref x0), some (.int x1)] [] H := (c_0 rfl ⟨rfl, Nat.le_of_ble_eq_true rfl, Nat.le_of_ble_eq_true rfl⟩).trans rfl
theorem s_4 {cl : Nat → List Value → aH → aRs} : (∀ ls st H, aGo cl none cd_4 2 0 ls st H = aILoad (fun st => aGo cl none cd_4 2 1 ls st H) ls 1 st) ∧
  (∀ ls st H, aGo cl none cd_4 2 1 ls st H = aIf (fun p st => aGo cl none cd_4 2 p ls st H) .ne 11 4 st) ∧
  (∀ ls st H, aGo cl none cd_4 2 4 ls st H = aRLoad (fun st => aGo cl none cd_4 2 5 ls st H) ls 0 st) ∧
  (∀ ls st H, aGo cl none cd_4 2 5 ls st H = aGet (fun st => aGo cl none cd_4 2 8 ls st H) 0 2 H st) ∧
  (∀ ls st H, aGo cl none cd_4 2 8 ls st H = aGo cl none cd_4 2 15 ls st H) ∧
  (∀ ls st H, aGo cl none cd_4 2 11 ls st H = aRLoad (fun st => aGo cl none cd_4 2 12 ls st H) ls 0 st) ∧
  (∀ ls st H, aGo cl none cd_4 2 12 ls st H = aGet (fun st => aGo cl none cd_4 2 15 ls st H) 0 3 H st) ∧
  (∀ ls st H, aGo cl none cd_4 2 15 ls st H = aAret 2 st H) :=
  ⟨fun _ _ _ => (aGo_s rfl).trans rfl, fun _ _ _ => (aGo_s rfl).trans rfl, fun _ _ _ => (aGo_s rfl).trans rfl, fun _ _ _ => (aGo_s rfl).trans rfl, fun _ _ _ => (aGo_s rfl).trans rfl, fun _ _ _ => (aGo_s rfl).trans rfl, fun _ _ _ => (aGo_s rfl).trans rfl, fun _ _ _ => (aGo_s rfl).trans rfl⟩
theorem e_4 {d : Nat} {x0 : Nat} {x1 : Int32} {H : aH} : aCall aMt (d + 1) 4 [.ref x0, .int x1] H = aGo (aCall aMt d) none cd_4 2 0 [some (.ref x0), some (.int x1)] [] H := (c_0 rfl ⟨rfl, Nat.le_of_ble_eq_true rfl, Nat.le_of_ble_eq_true rfl⟩).trans rfl
theorem s_5 {cl : Nat → List Value → aH → aRs} : (∀ ls st H, aGo cl none cd_5 0 0 ls st H = aGo cl none cd_5 0 1 ls (.int 0 :: st) H) ∧
  (∀ ls st H, aGo cl none cd_5 0 1 ls st H = aIStore (fun ls st => aGo cl none cd_5 0 2 ls st H) ls 1 st) ∧
  (∀ ls st H, aGo cl none cd_5 0 2 ls st H = aGo cl none cd_5 0 3 ls (.int 0 :: st) H) ∧
  (∀ ls st H, aGo cl none cd_5 0 3 ls st H = aIStore (fun ls st => aGo cl none cd_5 0 4 ls st H) ls 2 st) ∧
  (∀ ls st H, aGo cl none cd_5 0 5 ls st H = aRLoad (fun st => aGo cl none cd_5 0 6 ls st H) ls 0 st) ∧
  (∀ ls st H, aGo cl none cd_5 0 6 ls st H = aGet (fun st => aGo cl none cd_5 0 9 ls st H) 0 7 H st) ∧
  (∀ ls st H, aGo cl none cd_5 0 9 ls st H = aIc (fun p st => aGo cl none cd_5 0 p ls st H) .ge 38 12 st) ∧
  (∀ ls st H, aGo cl none cd_5 0 12 ls st H = aILoad (fun st => aGo cl none cd_5 0 13 ls st H) ls 1 st) ∧
  (∀ ls st H, aGo cl none cd_5 0 13 ls st H = aRLoad (fun st => aGo cl none cd_5 0 14 ls st H) ls 0 st) ∧
  (∀ ls st H, aGo cl none cd_5 0 14 ls st H = aGet (fun st => aGo cl none cd_5 0 17 ls st H) 0 1 H st) ∧
  (∀ ls st H, aGo cl none cd_5 0 17 ls st H = aILoad (fun st => aGo cl none cd_5 0 18 ls st H) ls 2 st) ∧
  (∀ ls st H, aGo cl none cd_5 0 18 ls st H = aAald (fun st => aGo cl none cd_5 0 19 ls st H) H st) ∧
  (∀ ls st H, aGo cl none cd_5 0 19 ls st H = aGet (fun st => aGo cl none cd_5 0 22 ls st H) 5 5 H st) ∧
  (∀ ls st H, aGo cl none cd_5 0 22 ls st H = aIf (fun p st => aGo cl none cd_5 0 p ls st H) .eq 29 25 st) ∧
  (∀ ls st H, aGo cl none cd_5 0 25 ls st H = aGo cl none cd_5 0 26 ls (.int 1 :: st) H) ∧
  (∀ ls st H, aGo cl none cd_5 0 26 ls st H = aGo cl none cd_5 0 30 ls st H) ∧
  (∀ ls st H, aGo cl none cd_5 0 29 ls st H = aGo cl none cd_5 0 30 ls (.int 0 :: st) H) ∧
  (∀ ls st H, aGo cl none cd_5 0 30 ls st H = aBin (fun st => aGo cl none cd_5 0 31 ls st H) (fun x y => x + y) st) ∧
  (∀ ls st H, aGo cl none cd_5 0 31 ls st H = aIStore (fun ls st => aGo cl none cd_5 0 32 ls st H) ls 1 st) ∧
  (∀ ls st H, aGo cl none cd_5 0 32 ls st H = aInc (fun ls => aGo cl none cd_5 0 35 ls st H) ls 2 1) ∧
  (∀ ls st H, aGo cl none cd_5 0 35 ls st H = aGo cl none cd_5 0 4 ls st H) ∧
  (∀ ls st H, aGo cl none cd_5 0 38 ls st H = aILoad (fun st => aGo cl none cd_5 0 39 ls st H) ls 1 st) ∧
  (∀ ls st H, aGo cl none cd_5 0 39 ls st H = aIret 0 st H) :=
  ⟨fun _ _ _ => (aGo_s rfl).trans rfl, fun _ _ _ => (aGo_s rfl).trans rfl, fun _ _ _ => (aGo_s rfl).trans rfl, fun _ _ _ => (aGo_s rfl).trans rfl, fun _ _ _ => (aGo_s rfl).trans rfl, fun _ _ _ => (aGo_s rfl).trans rfl, fun _ _ _ => (aGo_s rfl).trans rfl, fun _ _ _ => (aGo_s rfl).trans rfl, fun _ _ _ => (aGo_s rfl).trans rfl, fun _ _ _ => (aGo_s rfl).trans rfl, fun _ _ _ => (aGo_s rfl).trans rfl, fun _ _ _ => (aGo_s rfl).trans rfl, fun _ _ _ => (aGo_s rfl).trans rfl, fun _ _ _ => (aGo_s rfl).trans rfl, fun _ _ _ => (aGo_s rfl).trans rfl, fun _ _ _ => (aGo_s rfl).trans rfl, fun _ _ _ => (aGo_s rfl).trans rfl, fun _ _ _ => (aGo_s rfl).trans rfl, fun _ _ _ => (aGo_s rfl).trans rfl, fun _ _ _ => (aGo_s rfl).trans rfl, fun _ _ _ => (aGo_s rfl).trans rfl, fun _ _ _ => (aGo_s rfl).trans rfl, fun _ _ _ => (aGo_s rfl).trans rfl⟩
theorem s_5_4 {cl : Nat → List Value → aH → aRs} : ∀ ls st H, aGo cl none cd_5 0 4 ls st H = aILoad (fun st => aGo cl none cd_5 0 5 ls st H) ls 2 st := fun _ _ _ => (aGo_s rfl).trans rfl
theorem e_5 {d : Nat} {x0 : Nat} {H : aH} : aCall aMt (d + 1) 5 [.ref x0] H = aGo (aCall aMt d) none cd_5 0 0 [some (.ref x0), none, none] [] H := (c_0 rfl ⟨rfl, Nat.le_of_ble_eq_true rfl, Nat.le_of_ble_eq_true rfl⟩).trans rfl
theorem s_6 {cl : Nat → List Value → aH → aRs} : (∀ ls st H, aGo cl none cd_6 0 0 ls st H = aGo cl none cd_6 0 1 ls (.int 0 :: st) H) ∧
  (∀ ls st H, aGo cl none cd_6 0 1 ls st H = aIStore (fun ls st => aGo cl none cd_6 0 2 ls st H) ls 2 st) ∧
  (∀ ls st H, aGo cl none cd_6 0 2 ls st H = aGo cl none cd_6 0 3 ls (.int 0 :: st) H) ∧
  (∀ ls st H, aGo cl none cd_6 0 3 ls st H = aIStore (fun ls st => aGo cl none cd_6 0 4 ls st H) ls 3 st) ∧
  (∀ ls st H, aGo cl none cd_6 0 5 ls st H = aRLoad (fun st => aGo cl none cd_6 0 6 ls st H) ls 0 st) ∧
  (∀ ls st H, aGo cl none cd_6 0 6 ls st H = aGet (fun st => aGo cl none cd_6 0 9 ls st H) 0 7 H st) ∧
  (∀ ls st H, aGo cl none cd_6 0 9 ls st H = aIc (fun p st => aGo cl none cd_6 0 p ls st H) .ge 51 12 st) ∧
  (∀ ls st H, aGo cl none cd_6 0 12 ls st H = aILoad (fun st => aGo cl none cd_6 0 13 ls st H) ls 2 st) ∧
  (∀ ls st H, aGo cl none cd_6 0 13 ls st H = aRLoad (fun st => aGo cl none cd_6 0 14 ls st H) ls 0 st) ∧
  (∀ ls st H, aGo cl none cd_6 0 14 ls st H = aGet (fun st => aGo cl none cd_6 0 17 ls st H) 0 1 H st) ∧
  (∀ ls st H, aGo cl none cd_6 0 17 ls st H = aILoad (fun st => aGo cl none cd_6 0 18 ls st H) ls 3 st) ∧
  (∀ ls st H, aGo cl none cd_6 0 18 ls st H = aAald (fun st => aGo cl none cd_6 0 19 ls st H) H st) ∧
  (∀ ls st H, aGo cl none cd_6 0 19 ls st H = aGet (fun st => aGo cl none cd_6 0 22 ls st H) 5 5 H st) ∧
  (∀ ls st H, aGo cl none cd_6 0 22 ls st H = aIf (fun p st => aGo cl none cd_6 0 p ls st H) .eq 42 25 st) ∧
  (∀ ls st H, aGo cl none cd_6 0 25 ls st H = aRLoad (fun st => aGo cl none cd_6 0 26 ls st H) ls 1 st) ∧
  (∀ ls st H, aGo cl none cd_6 0 26 ls st H = aRLoad (fun st => aGo cl none cd_6 0 27 ls st H) ls 0 st) ∧
  (∀ ls st H, aGo cl none cd_6 0 27 ls st H = aGet (fun st => aGo cl none cd_6 0 30 ls st H) 0 1 H st) ∧
  (∀ ls st H, aGo cl none cd_6 0 30 ls st H = aILoad (fun st => aGo cl none cd_6 0 31 ls st H) ls 3 st) ∧
  (∀ ls st H, aGo cl none cd_6 0 31 ls st H = aAald (fun st => aGo cl none cd_6 0 32 ls st H) H st) ∧
  (∀ ls st H, aGo cl none cd_6 0 32 ls st H = aCallV (fun st H => aGo cl none cd_6 0 35 ls st H) cl 33 1 2 H st) ∧
  (∀ ls st H, aGo cl none cd_6 0 35 ls st H = aIf (fun p st => aGo cl none cd_6 0 p ls st H) .eq 42 38 st) ∧
  (∀ ls st H, aGo cl none cd_6 0 38 ls st H = aGo cl none cd_6 0 39 ls (.int 1 :: st) H) ∧
  (∀ ls st H, aGo cl none cd_6 0 39 ls st H = aGo cl none cd_6 0 43 ls st H) ∧
  (∀ ls st H, aGo cl none cd_6 0 42 ls st H = aGo cl none cd_6 0 43 ls (.int 0 :: st) H) ∧
  (∀ ls st H, aGo cl none cd_6 0 43 ls st H = aBin (fun st => aGo cl none cd_6 0 44 ls st H) (fun x y => x + y) st) ∧
  (∀ ls st H, aGo cl none cd_6 0 44 ls st H = aIStore (fun ls st => aGo cl none cd_6 0 45 ls st H) ls 2 st) ∧
  (∀ ls st H, aGo cl none cd_6 0 45 ls st H = aInc (fun ls => aGo cl none cd_6 0 48 ls st H) ls 3 1) ∧
  (∀ ls st H, aGo cl none cd_6 0 48 ls st H = aGo cl none cd_6 0 4 ls st H) ∧
  (∀ ls st H, aGo cl none cd_6 0 51 ls st H = aILoad (fun st => aGo cl none cd_6 0 52 ls st H) ls 2 st) ∧
  (∀ ls st H, aGo cl none cd_6 0 52 ls st H = aIret 0 st H) :=
  ⟨fun _ _ _ => (aGo_s rfl).trans rfl, fun _ _ _ => (aGo_s rfl).trans rfl, fun _ _ _ => (aGo_s rfl).trans rfl, fun _ _ _ => (aGo_s rfl).trans rfl, fun _ _ _ => (aGo_s rfl).trans rfl, fun _ _ _ => (aGo_s rfl).trans rfl, fun _ _ _ => (aGo_s rfl).trans rfl, fun _ _ _ => (aGo_s rfl).trans rfl, fun _ _ _ => (aGo_s rfl).trans rfl, fun _ _ _ => (aGo_s rfl).trans rfl, fun _ _ _ => (aGo_s rfl).trans rfl, fun _ _ _ => (aGo_s rfl).trans rfl, fun _ _ _ => (aGo_s rfl).trans rfl, fun _ _ _ => (aGo_s rfl).trans rfl, fun _ _ _ => (aGo_s rfl).trans rfl, fun _ _ _ => (aGo_s rfl).trans rfl, fun _ _ _ => (aGo_s rfl).trans rfl, fun _ _ _ => (aGo_s rfl).trans rfl, fun _ _ _ => (aGo_s rfl).trans rfl, fun _ _ _ => (aGo_s rfl).trans rfl, fun _ _ _ => (aGo_s rfl).trans rfl, fun _ _ _ => (aGo_s rfl).trans rfl, fun _ _ _ => (aGo_s rfl).trans rfl, fun _ _ _ => (aGo_s rfl).trans rfl, fun _ _ _ => (aGo_s rfl).trans rfl, fun _ _ _ => (aGo_s rfl).trans rfl, fun _ _ _ => (aGo_s rfl).trans rfl, fun _ _ _ => (aGo_s rfl).trans rfl, fun _ _ _ => (aGo_s rfl).trans rfl, fun _ _ _ => (aGo_s rfl).trans rfl⟩
theorem s_6_4 {cl : Nat → List Value → aH → aRs} : ∀ ls st H, aGo cl none cd_6 0 4 ls st H = aILoad (fun st => aGo cl none cd_6 0 5 ls st H) ls 3 st := fun _ _ _ => (aGo_s rfl).trans rfl
theorem e_6 {d : Nat} {x0 : Nat} {x1 : Nat} {H : aH} : aCall aMt (d + 1) 6 [.ref x0, .ref x1] H = aGo (aCall aMt d) none cd_6 0 0 [some (.ref x0), some (.ref x1), none, none] [] H := (c_0 rfl ⟨rfl, Nat.le_of_ble_eq_true rfl, Nat.le_of_ble_eq_true rfl⟩).trans rfl
theorem s_7 {cl : Nat → List Value → aH → aRs} : (∀ ls st H, aGo cl none cd_7 0 0 ls st H = aRLoad (fun st => aGo cl none cd_7 0 1 ls st H) ls 0 st) ∧
  (∀ ls st H, aGo cl none cd_7 0 1 ls st H = aGet (fun st => aGo cl none cd_7 0 4 ls st H) 0 2 H st) ∧
  (∀ ls st H, aGo cl none cd_7 0 4 ls st H = aRLoad (fun st => aGo cl none cd_7 0 5 ls st H) ls 1 st) ∧
  (∀ ls st H, aGo cl none cd_7 0 5 ls st H = aGet (fun st => aGo cl none cd_7 0 8 ls st H) 5 1 H st) ∧
  (∀ ls st H, aGo cl none cd_7 0 8 ls st H = aRLoad (fun st => aGo cl none cd_7 0 9 ls st H) ls 1 st) ∧
  (∀ ls st H, aGo cl none cd_7 0 9 ls st H = aGet (fun st => aGo cl none cd_7 0 12 ls st H) 5 2 H st) ∧
  (∀ ls st H, aGo cl none cd_7 0 12 ls st H = aRLoad (fun st => aGo cl none cd_7 0 13 ls st H) ls 1 st) ∧
  (∀ ls st H, aGo cl none cd_7 0 13 ls st H = aGet (fun st => aGo cl none cd_7 0 16 ls st H) 5 3 H st) ∧
  (∀ ls st H, aGo cl none cd_7 0 16 ls st H = aCallV (fun st H => aGo cl none cd_7 0 19 ls st H) cl 24 3 1 H st) ∧
  (∀ ls st H, aGo cl none cd_7 0 19 ls st H = aIret 0 st H) :=
  ⟨fun _ _ _ => (aGo_s rfl).trans rfl, fun _ _ _ => (aGo_s rfl).trans rfl, fun _ _ _ => (aGo_s rfl).trans rfl, fun _ _ _ => (aGo_s rfl).trans rfl, fun _ _ _ => (aGo_s rfl).trans rfl, fun _ _ _ => (aGo_s rfl).trans rfl, fun _ _ _ => (aGo_s rfl).trans rfl, fun _ _ _ => (aGo_s rfl).trans rfl, fun _ _ _ => (aGo_s rfl).trans rfl, fun _ _ _ => (aGo_s rfl).trans rfl⟩
theorem e_7 {d : Nat} {x0 : Nat} {x1 : Nat} {H : aH} : aCall aMt (d + 1) 7 [.ref x0, .ref x1] H = aGo (aCall aMt d) none cd_7 0 0 [some (.ref x0), some (.ref x1)] [] H := (c_0 rfl ⟨rfl, Nat.le_of_ble_eq_true rfl, Nat.le_of_ble_eq_true rfl⟩).trans rfl
theorem s_8 {cl : Nat → List Value → aH → aRs} : (∀ ls st H, aGo cl none cd_8 0 0 ls st H = aRLoad (fun st => aGo cl none cd_8 0 1 ls st H) ls 1 st) ∧
  (∀ ls st H, aGo cl none cd_8 0 1 ls st H = aRLoad (fun st => aGo cl none cd_8 0 2 ls st H) ls 2 st) ∧
  (∀ ls st H, aGo cl none cd_8 0 2 ls st H = aRLoad (fun st => aGo cl none cd_8 0 3 ls st H) ls 0 st) ∧
  (∀ ls st H, aGo cl none cd_8 0 3 ls st H = aGet (fun st => aGo cl none cd_8 0 6 ls st H) 0 2 H st) ∧
  (∀ ls st H, aGo cl none cd_8 0 6 ls st H = aRLoad (fun st => aGo cl none cd_8 0 7 ls st H) ls 2 st) ∧
  (∀ ls st H, aGo cl none cd_8 0 7 ls st H = aGet (fun st => aGo cl none cd_8 0 10 ls st H) 5 1 H st) ∧
  (∀ ls st H, aGo cl none cd_8 0 10 ls st H = aRLoad (fun st => aGo cl none cd_8 0 11 ls st H) ls 2 st) ∧
  (∀ ls st H, aGo cl none cd_8 0 11 ls st H = aGet (fun st => aGo cl none cd_8 0 14 ls st H) 5 2 H st) ∧
  (∀ ls st H, aGo cl none cd_8 0 14 ls st H = aRLoad (fun st => aGo cl none cd_8 0 15 ls st H) ls 2 st) ∧
  (∀ ls st H, aGo cl none cd_8 0 15 ls st H = aGet (fun st => aGo cl none cd_8 0 18 ls st H) 5 3 H st) ∧
  (∀ ls st H, aGo cl none cd_8 0 18 ls st H = aCallV (fun st H => aGo cl none cd_8 0 21 ls st H) cl 24 3 1 H st) ∧
  (∀ ls st H, aGo cl none cd_8 0 21 ls st H = aCallV (fun st H => aGo cl none cd_8 0 24 ls st H) cl 34 2 2 H st) ∧
  (∀ ls st H, aGo cl none cd_8 0 24 ls st H = aIStore (fun ls st => aGo cl none cd_8 0 26 ls st H) ls 4 st) ∧
  (∀ ls st H, aGo cl none cd_8 0 26 ls st H = aRLoad (fun st => aGo cl none cd_8 0 27 ls st H) ls 1 st) ∧
  (∀ ls st H, aGo cl none cd_8 0 27 ls st H = aRLoad (fun st => aGo cl none cd_8 0 28 ls st H) ls 2 st) ∧
  (∀ ls st H, aGo cl none cd_8 0 28 ls st H = aCallV (fun st H => aGo cl none cd_8 0 31 ls st H) cl 33 1 2 H st) ∧
  (∀ ls st H, aGo cl none cd_8 0 31 ls st H = aIf (fun p st => aGo cl none cd_8 0 p ls st H) .eq 39 34 st) ∧
  (∀ ls st H, aGo cl none cd_8 0 34 ls st H = aILoad (fun st => aGo cl none cd_8 0 36 ls st H) ls 4 st) ∧
  (∀ ls st H, aGo cl none cd_8 0 36 ls st H = aGo cl none cd_8 0 58 ls st H) ∧
  (∀ ls st H, aGo cl none cd_8 0 39 ls st H = aILoad (fun st => aGo cl none cd_8 0 41 ls st H) ls 4 st) ∧
  (∀ ls st H, aGo cl none cd_8 0 41 ls st H = aRLoad (fun st => aGo cl none cd_8 0 42 ls st H) ls 0 st) ∧
  (∀ ls st H, aGo cl none cd_8 0 42 ls st H = aGet (fun st => aGo cl none cd_8 0 45 ls st H) 0 3 H st) ∧
  (∀ ls st H, aGo cl none cd_8 0 45 ls st H = aRLoad (fun st => aGo cl none cd_8 0 46 ls st H) ls 2 st) ∧
  (∀ ls st H, aGo cl none cd_8 0 46 ls st H = aGet (fun st => aGo cl none cd_8 0 49 ls st H) 5 1 H st) ∧
  (∀ ls st H, aGo cl none cd_8 0 49 ls st H = aILoad (fun st => aGo cl none cd_8 0 50 ls st H) ls 3 st) ∧
  (∀ ls st H, aGo cl none cd_8 0 50 ls st H = aRLoad (fun st => aGo cl none cd_8 0 51 ls st H) ls 2 st) ∧
  (∀ ls st H, aGo cl none cd_8 0 51 ls st H = aGet (fun st => aGo cl none cd_8 0 54 ls st H) 5 2 H st) ∧
  (∀ ls st H, aGo cl none cd_8 0 54 ls st H = aCallV (fun st H => aGo cl none cd_8 0 57 ls st H) cl 24 3 1 H st) ∧
  (∀ ls st H, aGo cl none cd_8 0 57 ls st H = aBin (fun st => aGo cl none cd_8 0 58 ls st H) (fun x y => x - y) st) ∧
  (∀ ls st H, aGo cl none cd_8 0 58 ls st H = aIret 0 st H) :=
  ⟨fun _ _ _ => (aGo_s rfl).trans rfl, fun _ _ _ => (aGo_s rfl).trans rfl, fun _ _ _ => (aGo_s rfl).trans rfl, fun _ _ _ => (aGo_s rfl).trans rfl, fun _ _ _ => (aGo_s rfl).trans rfl, fun _ _ _ => (aGo_s rfl).trans rfl, fun _ _ _ => (aGo_s rfl).trans rfl, fun _ _ _ => (aGo_s rfl).trans rfl, fun _ _ _ => (aGo_s rfl).trans rfl, fun _ _ _ => (aGo_s rfl).trans rfl, fun _ _ _ => (aGo_s rfl).trans rfl, fun _ _ _ => (aGo_s rfl).trans rfl, fun _ _ _ => (aGo_s rfl).trans rfl, fun _ _ _ => (aGo_s rfl).trans rfl, fun _ _ _ => (aGo_s rfl).trans rfl, fun _ _ _ => (aGo_s rfl).trans rfl, fun _ _ _ => (aGo_s rfl).trans rfl, fun _ _ _ => (aGo_s rfl).trans rfl, fun _ _ _ => (aGo_s rfl).trans rfl, fun _ _ _ => (aGo_s rfl).trans rfl, fun _ _ _ => (aGo_s rfl).trans rfl, fun _ _ _ => (aGo_s rfl).trans rfl, fun _ _ _ => (aGo_s rfl).trans rfl, fun _ _ _ => (aGo_s rfl).trans rfl, fun _ _ _ => (aGo_s rfl).trans rfl, fun _ _ _ => (aGo_s rfl).trans rfl, fun _ _ _ => (aGo_s rfl).trans rfl, fun _ _ _ => (aGo_s rfl).trans rfl, fun _ _ _ => (aGo_s rfl).trans rfl, fun _ _ _ => (aGo_s rfl).trans rfl⟩
theorem e_8 {d : Nat} {x0 : Nat} {x1 : Nat} {x2 : Nat} {x3 : Int32} {H : aH} : aCall aMt (d + 1) 8 [.ref x0, .ref x1, .ref x2, .int x3] H = aGo (aCall aMt d) none cd_8 0 0 [some (.ref x0), some (.ref x1), some (.ref x2), some (.int x3), none] [] H := (c_0 rfl ⟨rfl, Nat.le_of_ble_eq_true rfl, Nat.le_of_ble_eq_true rfl⟩).trans rfl
theorem s_9 {cl : Nat → List Value → aH → aRs} : (∀ ls st H, aGo cl none cd_9 0 0 ls st H = aGo cl none cd_9 0 1 ls (.int (-1) :: st) H) ∧
  (∀ ls st H, aGo cl none cd_9 0 1 ls st H = aIStore (fun ls st => aGo cl none cd_9 0 2 ls st H) ls 3 st) ∧
  (∀ ls st H, aGo cl none cd_9 0 2 ls st H = aGo cl none cd_9 0 3 ls (.int 0 :: st) H) ∧
  (∀ ls st H, aGo cl none cd_9 0 3 ls st H = aIStore (fun ls st => aGo cl none cd_9 0 5 ls st H) ls 4 st) ∧
  (∀ ls st H, aGo cl none cd_9 0 5 ls st H = aGo cl none cd_9 0 6 ls (.int 0 :: st) H) ∧
  (∀ ls st H, aGo cl none cd_9 0 6 ls st H = aIStore (fun ls st => aGo cl none cd_9 0 8 ls st H) ls 5 st) ∧
  (∀ ls st H, aGo cl none cd_9 0 10 ls st H = aRLoad (fun st => aGo cl none cd_9 0 11 ls st H) ls 0 st) ∧
  (∀ ls st H, aGo cl none cd_9 0 11 ls st H = aGet (fun st => aGo cl none cd_9 0 14 ls st H) 0 7 H st) ∧
  (∀ ls st H, aGo cl none cd_9 0 14 ls st H = aIc (fun p st => aGo cl none cd_9 0 p ls st H) .ge 69 17 st) ∧
  (∀ ls st H, aGo cl none cd_9 0 17 ls st H = aRLoad (fun st => aGo cl none cd_9 0 18 ls st H) ls 0 st) ∧
  (∀ ls st H, aGo cl none cd_9 0 18 ls st H = aGet (fun st => aGo cl none cd_9 0 21 ls st H) 0 1 H st) ∧
  (∀ ls st H, aGo cl none cd_9 0 21 ls st H = aILoad (fun st => aGo cl none cd_9 0 23 ls st H) ls 5 st) ∧
  (∀ ls st H, aGo cl none cd_9 0 23 ls st H = aAald (fun st => aGo cl none cd_9 0 24 ls st H) H st) ∧
  (∀ ls st H, aGo cl none cd_9 0 24 ls st H = aCallV (fun st H => aGo cl none cd_9 0 27 ls st H) cl 53 0 5 H st) ∧
  (∀ ls st H, aGo cl none cd_9 0 27 ls st H = aIf (fun p st => aGo cl none cd_9 0 p ls st H) .eq 46 30 st) ∧
  (∀ ls st H, aGo cl none cd_9 0 30 ls st H = aRLoad (fun st => aGo cl none cd_9 0 31 ls st H) ls 0 st) ∧
  (∀ ls st H, aGo cl none cd_9 0 31 ls st H = aRLoad (fun st => aGo cl none cd_9 0 32 ls st H) ls 1 st) ∧
  (∀ ls st H, aGo cl none cd_9 0 32 ls st H = aRLoad (fun st => aGo cl none cd_9 0 33 ls st H) ls 0 st) ∧
  (∀ ls st H, aGo cl none cd_9 0 33 ls st H = aGet (fun st => aGo cl none cd_9 0 36 ls st H) 0 1 H st) ∧
  (∀ ls st H, aGo cl none cd_9 0 36 ls st H = aILoad (fun st => aGo cl none cd_9 0 38 ls st H) ls 5 st) ∧
  (∀ ls st H, aGo cl none cd_9 0 38 ls st H = aAald (fun st => aGo cl none cd_9 0 39 ls st H) H st) ∧
  (∀ ls st H, aGo cl none cd_9 0 39 ls st H = aILoad (fun st => aGo cl none cd_9 0 40 ls st H) ls 2 st) ∧
  (∀ ls st H, aGo cl none cd_9 0 40 ls st H = aCallV (fun st H => aGo cl none cd_9 0 43 ls st H) cl 8 3 0 H st) ∧
  (∀ ls st H, aGo cl none cd_9 0 43 ls st H = aGo cl none cd_9 0 47 ls st H) ∧
  (∀ ls st H, aGo cl none cd_9 0 46 ls st H = aGo cl none cd_9 0 47 ls (.int 0 :: st) H) ∧
  (∀ ls st H, aGo cl none cd_9 0 47 ls st H = aIStore (fun ls st => aGo cl none cd_9 0 49 ls st H) ls 6 st) ∧
  (∀ ls st H, aGo cl none cd_9 0 49 ls st H = aILoad (fun st => aGo cl none cd_9 0 51 ls st H) ls 6 st) ∧
  (∀ ls st H, aGo cl none cd_9 0 51 ls st H = aILoad (fun st => aGo cl none cd_9 0 53 ls st H) ls 4 st) ∧
  (∀ ls st H, aGo cl none cd_9 0 53 ls st H = aIc (fun p st => aGo cl none cd_9 0 p ls st H) .le 63 56 st) ∧
  (∀ ls st H, aGo cl none cd_9 0 56 ls st H = aILoad (fun st => aGo cl none cd_9 0 58 ls st H) ls 6 st) ∧
  (∀ ls st H, aGo cl none cd_9 0 58 ls st H = aIStore (fun ls st => aGo cl none cd_9 0 60 ls st H) ls 4 st) ∧
  (∀ ls st H, aGo cl none cd_9 0 60 ls st H = aILoad (fun st => aGo cl none cd_9 0 62 ls st H) ls 5 st) ∧
  (∀ ls st H, aGo cl none cd_9 0 62 ls st H = aIStore (fun ls st => aGo cl none cd_9 0 63 ls st H) ls 3 st) ∧
  (∀ ls st H, aGo cl none cd_9 0 63 ls st H = aInc (fun ls => aGo cl none cd_9 0 66 ls st H) ls 5 1) ∧
  (∀ ls st H, aGo cl none cd_9 0 66 ls st H = aGo cl none cd_9 0 8 ls st H) ∧
  (∀ ls st H, aGo cl none cd_9 0 69 ls st H = aILoad (fun st => aGo cl none cd_9 0 70 ls st H) ls 3 st) ∧
  (∀ ls st H, aGo cl none cd_9 0 70 ls st H = aIret 0 st H) :=
  ⟨fun _ _ _ => (aGo_s rfl).trans rfl, fun _ _ _ => (aGo_s rfl).trans rfl, fun _ _ _ => (aGo_s rfl).trans rfl, fun _ _ _ => (aGo_s rfl).trans rfl, fun _ _ _ => (aGo_s rfl).trans rfl, fun _ _ _ => (aGo_s rfl).trans rfl, fun _ _ _ => (aGo_s rfl).trans rfl, fun _ _ _ => (aGo_s rfl).trans rfl, fun _ _ _ => (aGo_s rfl).trans rfl, fun _ _ _ => (aGo_s rfl).trans rfl, fun _ _ _ => (aGo_s rfl).trans rfl, fun _ _ _ => (aGo_s rfl).trans rfl, fun _ _ _ => (aGo_s rfl).trans rfl, fun _ _ _ => (aGo_s rfl).trans rfl, fun _ _ _ => (aGo_s rfl).trans rfl, fun _ _ _ => (aGo_s rfl).trans rfl, fun _ _ _ => (aGo_s rfl).trans rfl, fun _ _ _ => (aGo_s rfl).trans rfl, fun _ _ _ => (aGo_s rfl).trans rfl, fun _ _ _ => (aGo_s rfl).trans rfl, fun _ _ _ => (aGo_s rfl).trans rfl, fun _ _ _ => (aGo_s rfl).trans rfl, fun _ _ _ => (aGo_s rfl).trans rfl, fun _ _ _ => (aGo_s rfl).trans rfl, fun _ _ _ => (aGo_s rfl).trans rfl, fun _ _ _ => (aGo_s rfl).trans rfl, fun _ _ _ => (aGo_s rfl).trans rfl, fun _ _ _ => (aGo_s rfl).trans rfl, fun _ _ _ => (aGo_s rfl).trans rfl, fun _ _ _ => (aGo_s rfl).trans rfl, fun _ _ _ => (aGo_s rfl).trans rfl, fun _ _ _ => (aGo_s rfl).trans rfl, fun _ _ _ => (aGo_s rfl).trans rfl, fun _ _ _ => (aGo_s rfl).trans rfl, fun _ _ _ => (aGo_s rfl).trans rfl, fun _ _ _ => (aGo_s rfl).trans rfl, fun _ _ _ => (aGo_s rfl).trans rfl⟩
theorem s_9_8 {cl : Nat → List Value → aH → aRs} : ∀ ls st H, aGo cl none cd_9 0 8 ls st H = aILoad (fun st => aGo cl none cd_9 0 10 ls st H) ls 5 st := fun _ _ _ => (aGo_s rfl).trans rfl
theorem e_9 {d : Nat} {x0 : Nat} {x1 : Nat} {x2 : Int32} {H : aH} : aCall aMt (d + 1) 9 [.ref x0, .ref x1, .int x2] H = aGo (aCall aMt d) none cd_9 0 0 [some (.ref x0), some (.ref x1), some (.int x2), none, none, none, none] [] H := (c_0 rfl ⟨rfl, Nat.le_of_ble_eq_true rfl, Nat.le_of_ble_eq_true rfl⟩).trans rfl
theorem s_10 {cl : Nat → List Value → aH → aRs} : (∀ ls st H, aGo cl none cd_10 0 0 ls st H = aGo cl none cd_10 0 1 ls (.int 0 :: st) H) ∧
  (∀ ls st H, aGo cl none cd_10 0 1 ls st H = aIStore (fun ls st => aGo cl none cd_10 0 2 ls st H) ls 3 st) ∧
  (∀ ls st H, aGo cl none cd_10 0 2 ls st H = aGo cl none cd_10 0 3 ls (.int 0 :: st) H) ∧
  (∀ ls st H, aGo cl none cd_10 0 3 ls st H = aIStore (fun ls st => aGo cl none cd_10 0 5 ls st H) ls 4 st) ∧
  (∀ ls st H, aGo cl none cd_10 0 7 ls st H = aRLoad (fun st => aGo cl none cd_10 0 8 ls st H) ls 0 st) ∧
  (∀ ls st H, aGo cl none cd_10 0 8 ls st H = aGet (fun st => aGo cl none cd_10 0 11 ls st H) 0 6 H st) ∧
  (∀ ls st H, aGo cl none cd_10 0 11 ls st H = aIc (fun p st => aGo cl none cd_10 0 p ls st H) .ge 43 14 st) ∧
  (∀ ls st H, aGo cl none cd_10 0 14 ls st H = aRLoad (fun st => aGo cl none cd_10 0 15 ls st H) ls 0 st) ∧
  (∀ ls st H, aGo cl none cd_10 0 15 ls st H = aRLoad (fun st => aGo cl none cd_10 0 16 ls st H) ls 0 st) ∧
  (∀ ls st H, aGo cl none cd_10 0 16 ls st H = aGet (fun st => aGo cl none cd_10 0 19 ls st H) 0 0 H st) ∧
  (∀ ls st H, aGo cl none cd_10 0 19 ls st H = aILoad (fun st => aGo cl none cd_10 0 21 ls st H) ls 4 st) ∧
  (∀ ls st H, aGo cl none cd_10 0 21 ls st H = aAald (fun st => aGo cl none cd_10 0 22 ls st H) H st) ∧
  (∀ ls st H, aGo cl none cd_10 0 22 ls st H = aILoad (fun st => aGo cl none cd_10 0 23 ls st H) ls 2 st) ∧
  (∀ ls st H, aGo cl none cd_10 0 23 ls st H = aCallV (fun st H => aGo cl none cd_10 0 26 ls st H) cl 9 2 0 H st) ∧
  (∀ ls st H, aGo cl none cd_10 0 26 ls st H = aILoad (fun st => aGo cl none cd_10 0 27 ls st H) ls 1 st) ∧
  (∀ ls st H, aGo cl none cd_10 0 27 ls st H = aIc (fun p st => aGo cl none cd_10 0 p ls st H) .ne 37 30 st) ∧
  (∀ ls st H, aGo cl none cd_10 0 30 ls st H = aILoad (fun st => aGo cl none cd_10 0 31 ls st H) ls 3 st) ∧
  (∀ ls st H, aGo cl none cd_10 0 31 ls st H = aGo cl none cd_10 0 32 ls (.int 1 :: st) H) ∧
  (∀ ls st H, aGo cl none cd_10 0 32 ls st H = aILoad (fun st => aGo cl none cd_10 0 34 ls st H) ls 4 st) ∧
  (∀ ls st H, aGo cl none cd_10 0 34 ls st H = aBin (fun st => aGo cl none cd_10 0 35 ls st H) (fun x y => x <<< (y &&& 31)) st) ∧
  (∀ ls st H, aGo cl none cd_10 0 35 ls st H = aBin (fun st => aGo cl none cd_10 0 36 ls st H) (fun x y => x ||| y) st) ∧
  (∀ ls st H, aGo cl none cd_10 0 36 ls st H = aIStore (fun ls st => aGo cl none cd_10 0 37 ls st H) ls 3 st) ∧
  (∀ ls st H, aGo cl none cd_10 0 37 ls st H = aInc (fun ls => aGo cl none cd_10 0 40 ls st H) ls 4 1) ∧
  (∀ ls st H, aGo cl none cd_10 0 40 ls st H = aGo cl none cd_10 0 5 ls st H) ∧
  (∀ ls st H, aGo cl none cd_10 0 43 ls st H = aILoad (fun st => aGo cl none cd_10 0 44 ls st H) ls 3 st) ∧
  (∀ ls st H, aGo cl none cd_10 0 44 ls st H = aIret 0 st H) :=
  ⟨fun _ _ _ => (aGo_s rfl).trans rfl, fun _ _ _ => (aGo_s rfl).trans rfl, fun _ _ _ => (aGo_s rfl).trans rfl, fun _ _ _ => (aGo_s rfl).trans rfl, fun _ _ _ => (aGo_s rfl).trans rfl, fun _ _ _ => (aGo_s rfl).trans rfl, fun _ _ _ => (aGo_s rfl).trans rfl, fun _ _ _ => (aGo_s rfl).trans rfl, fun _ _ _ => (aGo_s rfl).trans rfl, fun _ _ _ => (aGo_s rfl).trans rfl, fun _ _ _ => (aGo_s rfl).trans rfl, fun _ _ _ => (aGo_s rfl).trans rfl, fun _ _ _ => (aGo_s rfl).trans rfl, fun _ _ _ => (aGo_s rfl).trans rfl, fun _ _ _ => (aGo_s rfl).trans rfl, fun _ _ _ => (aGo_s rfl).trans rfl, fun _ _ _ => (aGo_s rfl).trans rfl, fun _ _ _ => (aGo_s rfl).trans rfl, fun _ _ _ => (aGo_s rfl).trans rfl, fun _ _ _ => (aGo_s rfl).trans rfl, fun _ _ _ => (aGo_s rfl).trans rfl, fun _ _ _ => (aGo_s rfl).trans rfl, fun _ _ _ => (aGo_s rfl).trans rfl, fun _ _ _ => (aGo_s rfl).trans rfl, fun _ _ _ => (aGo_s rfl).trans rfl, fun _ _ _ => (aGo_s rfl).trans rfl⟩
theorem s_10_5 {cl : Nat → List Value → aH → aRs} : ∀ ls st H, aGo cl none cd_10 0 5 ls st H = aILoad (fun st => aGo cl none cd_10 0 7 ls st H) ls 4 st := fun _ _ _ => (aGo_s rfl).trans rfl
theorem e_10 {d : Nat} {x0 : Nat} {x1 : Int32} {x2 : Int32} {H : aH} : aCall aMt (d + 1) 10 [.ref x0, .int x1, .int x2] H = aGo (aCall aMt d) none cd_10 0 0 [some (.ref x0), some (.int x1), some (.int x2), none, none] [] H := (c_0 rfl ⟨rfl, Nat.le_of_ble_eq_true rfl, Nat.le_of_ble_eq_true rfl⟩).trans rfl
theorem s_11 {cl : Nat → List Value → aH → aRs} : (∀ ls st H, aGo cl none cd_11 0 0 ls st H = aRLoad (fun st => aGo cl none cd_11 0 1 ls st H) ls 0 st) ∧
  (∀ ls st H, aGo cl none cd_11 0 1 ls st H = aILoad (fun st => aGo cl none cd_11 0 2 ls st H) ls 1 st) ∧
  (∀ ls st H, aGo cl none cd_11 0 2 ls st H = aCallV (fun st H => aGo cl none cd_11 0 5 ls st H) cl 2 1 0 H st) ∧
  (∀ ls st H, aGo cl none cd_11 0 5 ls st H = aRStore (fun ls st => aGo cl none cd_11 0 6 ls st H) ls 2 st) ∧
  (∀ ls st H, aGo cl none cd_11 0 6 ls st H = aRLoad (fun st => aGo cl none cd_11 0 7 ls st H) ls 2 st) ∧
  (∀ ls st H, aGo cl none cd_11 0 7 ls st H = aNul (fun p st => aGo cl none cd_11 0 p ls st H) 10 14 st) ∧
  (∀ ls st H, aGo cl none cd_11 0 10 ls st H = aGo cl none cd_11 0 11 ls (.null :: st) H) ∧
  (∀ ls st H, aGo cl none cd_11 0 11 ls st H = aGo cl none cd_11 0 24 ls st H) ∧
  (∀ ls st H, aGo cl none cd_11 0 14 ls st H = aRLoad (fun st => aGo cl none cd_11 0 15 ls st H) ls 0 st) ∧
  (∀ ls st H, aGo cl none cd_11 0 15 ls st H = aRLoad (fun st => aGo cl none cd_11 0 16 ls st H) ls 0 st) ∧
  (∀ ls st H, aGo cl none cd_11 0 16 ls st H = aRLoad (fun st => aGo cl none cd_11 0 17 ls st H) ls 2 st) ∧
  (∀ ls st H, aGo cl none cd_11 0 17 ls st H = aGo cl none cd_11 0 18 ls (.int 0 :: st) H) ∧
  (∀ ls st H, aGo cl none cd_11 0 18 ls st H = aCallV (fun st H => aGo cl none cd_11 0 21 ls st H) cl 9 2 0 H st) ∧
  (∀ ls st H, aGo cl none cd_11 0 21 ls st H = aCallV (fun st H => aGo cl none cd_11 0 24 ls st H) cl 3 1 0 H st) ∧
  (∀ ls st H, aGo cl none cd_11 0 24 ls st H = aRStore (fun ls st => aGo cl none cd_11 0 25 ls st H) ls 3 st) ∧
  (∀ ls st H, aGo cl none cd_11 0 25 ls st H = aRLoad (fun st => aGo cl none cd_11 0 26 ls st H) ls 3 st) ∧
  (∀ ls st H, aGo cl none cd_11 0 26 ls st H = aNul (fun p st => aGo cl none cd_11 0 p ls st H) 37 29 st) ∧
  (∀ ls st H, aGo cl none cd_11 0 29 ls st H = aRLoad (fun st => aGo cl none cd_11 0 30 ls st H) ls 2 st) ∧
  (∀ ls st H, aGo cl none cd_11 0 30 ls st H = aRLoad (fun st => aGo cl none cd_11 0 31 ls st H) ls 3 st) ∧
  (∀ ls st H, aGo cl none cd_11 0 31 ls st H = aCallV (fun st H => aGo cl none cd_11 0 34 ls st H) cl 33 1 2 H st) ∧
  (∀ ls st H, aGo cl none cd_11 0 34 ls st H = aIf (fun p st => aGo cl none cd_11 0 p ls st H) .eq 41 37 st) ∧
  (∀ ls st H, aGo cl none cd_11 0 37 ls st H = aGo cl none cd_11 0 38 ls (.int (-1) :: st) H) ∧
  (∀ ls st H, aGo cl none cd_11 0 38 ls st H = aGo cl none cd_11 0 45 ls st H) ∧
  (∀ ls st H, aGo cl none cd_11 0 41 ls st H = aRLoad (fun st => aGo cl none cd_11 0 42 ls st H) ls 3 st) ∧
  (∀ ls st H, aGo cl none cd_11 0 42 ls st H = aGet (fun st => aGo cl none cd_11 0 45 ls st H) 5 0 H st) ∧
  (∀ ls st H, aGo cl none cd_11 0 45 ls st H = aIret 0 st H) :=
  ⟨fun _ _ _ => (aGo_s rfl).trans rfl, fun _ _ _ => (aGo_s rfl).trans rfl, fun _ _ _ => (aGo_s rfl).trans rfl, fun _ _ _ => (aGo_s rfl).trans rfl, fun _ _ _ => (aGo_s rfl).trans rfl, fun _ _ _ => (aGo_s rfl).trans rfl, fun _ _ _ => (aGo_s rfl).trans rfl, fun _ _ _ => (aGo_s rfl).trans rfl, fun _ _ _ => (aGo_s rfl).trans rfl, fun _ _ _ => (aGo_s rfl).trans rfl, fun _ _ _ => (aGo_s rfl).trans rfl, fun _ _ _ => (aGo_s rfl).trans rfl, fun _ _ _ => (aGo_s rfl).trans rfl, fun _ _ _ => (aGo_s rfl).trans rfl, fun _ _ _ => (aGo_s rfl).trans rfl, fun _ _ _ => (aGo_s rfl).trans rfl, fun _ _ _ => (aGo_s rfl).trans rfl, fun _ _ _ => (aGo_s rfl).trans rfl, fun _ _ _ => (aGo_s rfl).trans rfl, fun _ _ _ => (aGo_s rfl).trans rfl, fun _ _ _ => (aGo_s rfl).trans rfl, fun _ _ _ => (aGo_s rfl).trans rfl, fun _ _ _ => (aGo_s rfl).trans rfl, fun _ _ _ => (aGo_s rfl).trans rfl, fun _ _ _ => (aGo_s rfl).trans rfl, fun _ _ _ => (aGo_s rfl).trans rfl⟩
theorem e_11 {d : Nat} {x0 : Nat} {x1 : Int32} {H : aH} : aCall aMt (d + 1) 11 [.ref x0, .int x1] H = aGo (aCall aMt d) none cd_11 0 0 [some (.ref x0), some (.int x1), none, none] [] H := (c_0 rfl ⟨rfl, Nat.le_of_ble_eq_true rfl, Nat.le_of_ble_eq_true rfl⟩).trans rfl
theorem s_12 {cl : Nat → List Value → aH → aRs} : (∀ ls st H, aGo cl none cd_12 0 0 ls st H = aGo cl none cd_12 0 1 ls (.int 0 :: st) H) ∧
  (∀ ls st H, aGo cl none cd_12 0 1 ls st H = aIStore (fun ls st => aGo cl none cd_12 0 2 ls st H) ls 1 st) ∧
  (∀ ls st H, aGo cl none cd_12 0 3 ls st H = aRLoad (fun st => aGo cl none cd_12 0 4 ls st H) ls 0 st) ∧
  (∀ ls st H, aGo cl none cd_12 0 4 ls st H = aGet (fun st => aGo cl none cd_12 0 7 ls st H) 0 6 H st) ∧
  (∀ ls st H, aGo cl none cd_12 0 7 ls st H = aIc (fun p st => aGo cl none cd_12 0 p ls st H) .ge 53 10 st) ∧
  (∀ ls st H, aGo cl none cd_12 0 10 ls st H = aRLoad (fun st => aGo cl none cd_12 0 11 ls st H) ls 0 st) ∧
  (∀ ls st H, aGo cl none cd_12 0 11 ls st H = aRLoad (fun st => aGo cl none cd_12 0 12 ls st H) ls 0 st) ∧
  (∀ ls st H, aGo cl none cd_12 0 12 ls st H = aGet (fun st => aGo cl none cd_12 0 15 ls st H) 0 0 H st) ∧
  (∀ ls st H, aGo cl none cd_12 0 15 ls st H = aILoad (fun st => aGo cl none cd_12 0 16 ls st H) ls 1 st) ∧
  (∀ ls st H, aGo cl none cd_12 0 16 ls st H = aAald (fun st => aGo cl none cd_12 0 17 ls st H) H st) ∧
  (∀ ls st H, aGo cl none cd_12 0 17 ls st H = aGo cl none cd_12 0 18 ls (.int 0 :: st) H) ∧
  (∀ ls st H, aGo cl none cd_12 0 18 ls st H = aCallV (fun st H => aGo cl none cd_12 0 21 ls st H) cl 9 2 0 H st) ∧
  (∀ ls st H, aGo cl none cd_12 0 21 ls st H = aIStore (fun ls st => aGo cl none cd_12 0 22 ls st H) ls 2 st) ∧
  (∀ ls st H, aGo cl none cd_12 0 22 ls st H = aILoad (fun st => aGo cl none cd_12 0 23 ls st H) ls 2 st) ∧
  (∀ ls st H, aGo cl none cd_12 0 23 ls st H = aGo cl none cd_12 0 24 ls (.int (-1) :: st) H) ∧
  (∀ ls st H, aGo cl none cd_12 0 24 ls st H = aIc (fun p st => aGo cl none cd_12 0 p ls st H) .eq 47 27 st) ∧
  (∀ ls st H, aGo cl none cd_12 0 27 ls st H = aRLoad (fun st => aGo cl none cd_12 0 28 ls st H) ls 0 st) ∧
  (∀ ls st H, aGo cl none cd_12 0 28 ls st H = aGet (fun st => aGo cl none cd_12 0 31 ls st H) 0 0 H st) ∧
  (∀ ls st H, aGo cl none cd_12 0 31 ls st H = aILoad (fun st => aGo cl none cd_12 0 32 ls st H) ls 1 st) ∧
  (∀ ls st H, aGo cl none cd_12 0 32 ls st H = aAald (fun st => aGo cl none cd_12 0 33 ls st H) H st) ∧
  (∀ ls st H, aGo cl none cd_12 0 33 ls st H = aRLoad (fun st => aGo cl none cd_12 0 34 ls st H) ls 0 st) ∧
  (∀ ls st H, aGo cl none cd_12 0 34 ls st H = aGet (fun st => aGo cl none cd_12 0 37 ls st H) 0 1 H st) ∧
  (∀ ls st H, aGo cl none cd_12 0 37 ls st H = aILoad (fun st => aGo cl none cd_12 0 38 ls st H) ls 2 st) ∧
  (∀ ls st H, aGo cl none cd_12 0 38 ls st H = aAald (fun st => aGo cl none cd_12 0 39 ls st H) H st) ∧
  (∀ ls st H, aGo cl none cd_12 0 39 ls st H = aCallV (fun st H => aGo cl none cd_12 0 42 ls st H) cl 33 1 2 H st) ∧
  (∀ ls st H, aGo cl none cd_12 0 42 ls st H = aIf (fun p st => aGo cl none cd_12 0 p ls st H) .ne 47 45 st) ∧
  (∀ ls st H, aGo cl none cd_12 0 45 ls st H = aILoad (fun st => aGo cl none cd_12 0 46 ls st H) ls 2 st) ∧
  (∀ ls st H, aGo cl none cd_12 0 46 ls st H = aIret 0 st H) ∧
  (∀ ls st H, aGo cl none cd_12 0 47 ls st H = aInc (fun ls => aGo cl none cd_12 0 50 ls st H) ls 1 1) ∧
  (∀ ls st H, aGo cl none cd_12 0 50 ls st H = aGo cl none cd_12 0 2 ls st H) ∧
  (∀ ls st H, aGo cl none cd_12 0 53 ls st H = aGo cl none cd_12 0 54 ls (.int (-1) :: st) H) ∧
  (∀ ls st H, aGo cl none cd_12 0 54 ls st H = aIret 0 st H) :=
  ⟨fun _ _ _ => (aGo_s rfl).trans rfl, fun _ _ _ => (aGo_s rfl).trans rfl, fun _ _ _ => (aGo_s rfl).trans rfl, fun _ _ _ => (aGo_s rfl).trans rfl, fun _ _ _ => (aGo_s rfl).trans rfl, fun _ _ _ => (aGo_s rfl).trans rfl, fun _ _ _ => (aGo_s rfl).trans rfl, fun _ _ _ => (aGo_s rfl).trans rfl, fun _ _ _ => (aGo_s rfl).trans rfl, fun _ _ _ => (aGo_s rfl).trans rfl, fun _ _ _ => (aGo_s rfl).trans rfl, fun _ _ _ => (aGo_s rfl).trans rfl, fun _ _ _ => (aGo_s rfl).trans rfl, fun _ _ _ => (aGo_s rfl).trans rfl, fun _ _ _ => (aGo_s rfl).trans rfl, fun _ _ _ => (aGo_s rfl).trans rfl, fun _ _ _ => (aGo_s rfl).trans rfl, fun _ _ _ => (aGo_s rfl).trans rfl, fun _ _ _ => (aGo_s rfl).trans rfl, fun _ _ _ => (aGo_s rfl).trans rfl, fun _ _ _ => (aGo_s rfl).trans rfl, fun _ _ _ => (aGo_s rfl).trans rfl, fun _ _ _ => (aGo_s rfl).trans rfl, fun _ _ _ => (aGo_s rfl).trans rfl, fun _ _ _ => (aGo_s rfl).trans rfl, fun _ _ _ => (aGo_s rfl).trans rfl, fun _ _ _ => (aGo_s rfl).trans rfl, fun _ _ _ => (aGo_s rfl).trans rfl, fun _ _ _ => (aGo_s rfl).trans rfl, fun _ _ _ => (aGo_s rfl).trans rfl, fun _ _ _ => (aGo_s rfl).trans rfl, fun _ _ _ => (aGo_s rfl).trans rfl⟩
theorem s_12_2 {cl : Nat → List Value → aH → aRs} : ∀ ls st H, aGo cl none cd_12 0 2 ls st H = aILoad (fun st => aGo cl none cd_12 0 3 ls st H) ls 1 st := fun _ _ _ => (aGo_s rfl).trans rfl
theorem e_12 {d : Nat} {x0 : Nat} {H : aH} : aCall aMt (d + 1) 12 [.ref x0] H = aGo (aCall aMt d) none cd_12 0 0 [some (.ref x0), none, none] [] H := (c_0 rfl ⟨rfl, Nat.le_of_ble_eq_true rfl, Nat.le_of_ble_eq_true rfl⟩).trans rfl
theorem s_13 {cl : Nat → List Value → aH → aRs} : (∀ ls st H, aGo cl none cd_13 0 0 ls st H = aRLoad (fun st => aGo cl none cd_13 0 1 ls st H) ls 0 st) ∧
  (∀ ls st H, aGo cl none cd_13 0 1 ls st H = aRLoad (fun st => aGo cl none cd_13 0 2 ls st H) ls 1 st) ∧
  (∀ ls st H, aGo cl none cd_13 0 2 ls st H = aILoad (fun st => aGo cl none cd_13 0 3 ls st H) ls 2 st) ∧
  (∀ ls st H, aGo cl none cd_13 0 3 ls st H = aCallV (fun st H => aGo cl none cd_13 0 6 ls st H) cl 9 2 0 H st) ∧
  (∀ ls st H, aGo cl none cd_13 0 6 ls st H = aIStore (fun ls st => aGo cl none cd_13 0 7 ls st H) ls 3 st) ∧
  (∀ ls st H, aGo cl none cd_13 0 7 ls st H = aRLoad (fun st => aGo cl none cd_13 0 8 ls st H) ls 0 st) ∧
  (∀ ls st H, aGo cl none cd_13 0 8 ls st H = aILoad (fun st => aGo cl none cd_13 0 9 ls st H) ls 3 st) ∧
  (∀ ls st H, aGo cl none cd_13 0 9 ls st H = aCallV (fun st H => aGo cl none cd_13 0 12 ls st H) cl 3 1 0 H st) ∧
  (∀ ls st H, aGo cl none cd_13 0 12 ls st H = aRStore (fun ls st => aGo cl none cd_13 0 14 ls st H) ls 4 st) ∧
  (∀ ls st H, aGo cl none cd_13 0 14 ls st H = aRLoad (fun st => aGo cl none cd_13 0 16 ls st H) ls 4 st) ∧
  (∀ ls st H, aGo cl none cd_13 0 16 ls st H = aNul (fun p st => aGo cl none cd_13 0 p ls st H) 19 21 st) ∧
  (∀ ls st H, aGo cl none cd_13 0 19 ls st H = aGo cl none cd_13 0 20 ls (.int (-1) :: st) H) ∧
  (∀ ls st H, aGo cl none cd_13 0 20 ls st H = aIret 0 st H) ∧
  (∀ ls st H, aGo cl none cd_13 0 21 ls st H = aRLoad (fun st => aGo cl none cd_13 0 23 ls st H) ls 4 st) ∧
  (∀ ls st H, aGo cl none cd_13 0 23 ls st H = aRLoad (fun st => aGo cl none cd_13 0 24 ls st H) ls 1 st) ∧
  (∀ ls st H, aGo cl none cd_13 0 24 ls st H = aGet (fun st => aGo cl none cd_13 0 27 ls st H) 2 0 H st) ∧
  (∀ ls st H, aGo cl none cd_13 0 27 ls st H = aCallV (fun st H => aGo cl none cd_13 0 30 ls st H) cl 54 1 5 H st) ∧
  (∀ ls st H, aGo cl none cd_13 0 30 ls st H = aRLoad (fun st => aGo cl none cd_13 0 31 ls st H) ls 1 st) ∧
  (∀ ls st H, aGo cl none cd_13 0 31 ls st H = aGet (fun st => aGo cl none cd_13 0 34 ls st H) 2 1 H st) ∧
  (∀ ls st H, aGo cl none cd_13 0 34 ls st H = aGo cl none cd_13 0 36 ls (.int 6 :: st) H) ∧
  (∀ ls st H, aGo cl none cd_13 0 36 ls st H = aIc (fun p st => aGo cl none cd_13 0 p ls st H) .ne 58 39 st) ∧
  (∀ ls st H, aGo cl none cd_13 0 39 ls st H = aRLoad (fun st => aGo cl none cd_13 0 40 ls st H) ls 0 st) ∧
  (∀ ls st H, aGo cl none cd_13 0 40 ls st H = aGo cl none cd_13 0 43 ls (.int 9999 :: st) H) ∧
  (∀ ls st H, aGo cl none cd_13 0 43 ls st H = aRLoad (fun st => aGo cl none cd_13 0 44 ls st H) ls 0 st) ∧
  (∀ ls st H, aGo cl none cd_13 0 44 ls st H = aGet (fun st => aGo cl none cd_13 0 47 ls st H) 0 13 H st) ∧
  (∀ ls st H, aGo cl none cd_13 0 47 ls st H = aGo cl none cd_13 0 48 ls (.int 1 :: st) H) ∧
  (∀ ls st H, aGo cl none cd_13 0 48 ls st H = aBin (fun st => aGo cl none cd_13 0 49 ls st H) (fun x y => x + y) st) ∧
  (∀ ls st H, aGo cl none cd_13 0 49 ls st H = aMin (fun st => aGo cl none cd_13 0 52 ls st H) st) ∧
  (∀ ls st H, aGo cl none cd_13 0 52 ls st H = aPut (fun st H => aGo cl none cd_13 0 55 ls st H) 0 13 H st) ∧
  (∀ ls st H, aGo cl none cd_13 0 55 ls st H = aGo cl none cd_13 0 65 ls st H) ∧
  (∀ ls st H, aGo cl none cd_13 0 58 ls st H = aRLoad (fun st => aGo cl none cd_13 0 59 ls st H) ls 0 st) ∧
  (∀ ls st H, aGo cl none cd_13 0 59 ls st H = aRLoad (fun st => aGo cl none cd_13 0 60 ls st H) ls 1 st) ∧
  (∀ ls st H, aGo cl none cd_13 0 60 ls st H = aRLoad (fun st => aGo cl none cd_13 0 62 ls st H) ls 4 st) ∧
  (∀ ls st H, aGo cl none cd_13 0 62 ls st H = aCallV (fun st H => aGo cl none cd_13 0 65 ls st H) cl 14 2 0 H st) ∧
  (∀ ls st H, aGo cl none cd_13 0 65 ls st H = aILoad (fun st => aGo cl none cd_13 0 66 ls st H) ls 3 st) ∧
  (∀ ls st H, aGo cl none cd_13 0 66 ls st H = aIret 0 st H) :=
  ⟨fun _ _ _ => (aGo_s rfl).trans rfl, fun _ _ _ => (aGo_s rfl).trans rfl, fun _ _ _ => (aGo_s rfl).trans rfl, fun _ _ _ => (aGo_s rfl).trans rfl, fun _ _ _ => (aGo_s rfl).trans rfl, fun _ _ _ => (aGo_s rfl).trans rfl, fun _ _ _ => (aGo_s rfl).trans rfl, fun _ _ _ => (aGo_s rfl).trans rfl, fun _ _ _ => (aGo_s rfl).trans rfl, fun _ _ _ => (aGo_s rfl).trans rfl, fun _ _ _ => (aGo_s rfl).trans rfl, fun _ _ _ => (aGo_s rfl).trans rfl, fun _ _ _ => (aGo_s rfl).trans rfl, fun _ _ _ => (aGo_s rfl).trans rfl, fun _ _ _ => (aGo_s rfl).trans rfl, fun _ _ _ => (aGo_s rfl).trans rfl, fun _ _ _ => (aGo_s rfl).trans rfl, fun _ _ _ => (aGo_s rfl).trans rfl, fun _ _ _ => (aGo_s rfl).trans rfl, fun _ _ _ => (aGo_s rfl).trans rfl, fun _ _ _ => (aGo_s rfl).trans rfl, fun _ _ _ => (aGo_s rfl).trans rfl, fun _ _ _ => (aGo_s rfl).trans rfl, fun _ _ _ => (aGo_s rfl).trans rfl, fun _ _ _ => (aGo_s rfl).trans rfl, fun _ _ _ => (aGo_s rfl).trans rfl, fun _ _ _ => (aGo_s rfl).trans rfl, fun _ _ _ => (aGo_s rfl).trans rfl, fun _ _ _ => (aGo_s rfl).trans rfl, fun _ _ _ => (aGo_s rfl).trans rfl, fun _ _ _ => (aGo_s rfl).trans rfl, fun _ _ _ => (aGo_s rfl).trans rfl, fun _ _ _ => (aGo_s rfl).trans rfl, fun _ _ _ => (aGo_s rfl).trans rfl, fun _ _ _ => (aGo_s rfl).trans rfl, fun _ _ _ => (aGo_s rfl).trans rfl⟩
theorem e_13 {d : Nat} {x0 : Nat} {x1 : Nat} {x2 : Int32} {H : aH} : aCall aMt (d + 1) 13 [.ref x0, .ref x1, .int x2] H = aGo (aCall aMt d) none cd_13 0 0 [some (.ref x0), some (.ref x1), some (.int x2), none, none] [] H := (c_0 rfl ⟨rfl, Nat.le_of_ble_eq_true rfl, Nat.le_of_ble_eq_true rfl⟩).trans rfl
theorem s_14 {cl : Nat → List Value → aH → aRs} : (∀ ls st H, aGo cl none cd_14 3 0 ls st H = aRLoad (fun st => aGo cl none cd_14 3 1 ls st H) ls 1 st) ∧
  (∀ ls st H, aGo cl none cd_14 3 1 ls st H = aGo cl none cd_14 3 2 ls (.int 0 :: st) H) ∧
  (∀ ls st H, aGo cl none cd_14 3 2 ls st H = aPut (fun st H => aGo cl none cd_14 3 5 ls st H) 2 3 H st) ∧
  (∀ ls st H, aGo cl none cd_14 3 5 ls st H = aRLoad (fun st => aGo cl none cd_14 3 6 ls st H) ls 1 st) ∧
  (∀ ls st H, aGo cl none cd_14 3 6 ls st H = aRLoad (fun st => aGo cl none cd_14 3 7 ls st H) ls 2 st) ∧
  (∀ ls st H, aGo cl none cd_14 3 7 ls st H = aCallV (fun st H => aGo cl none cd_14 3 10 ls st H) cl 33 1 2 H st) ∧
  (∀ ls st H, aGo cl none cd_14 3 10 ls st H = aIf (fun p st => aGo cl none cd_14 3 p ls st H) .eq 30 13 st) ∧
  (∀ ls st H, aGo cl none cd_14 3 13 ls st H = aRLoad (fun st => aGo cl none cd_14 3 14 ls st H) ls 0 st) ∧
  (∀ ls st H, aGo cl none cd_14 3 14 ls st H = aGo cl none cd_14 3 17 ls (.int 9999 :: st) H) ∧
  (∀ ls st H, aGo cl none cd_14 3 17 ls st H = aRLoad (fun st => aGo cl none cd_14 3 18 ls st H) ls 0 st) ∧
  (∀ ls st H, aGo cl none cd_14 3 18 ls st H = aGet (fun st => aGo cl none cd_14 3 21 ls st H) 0 12 H st) ∧
  (∀ ls st H, aGo cl none cd_14 3 21 ls st H = aGo cl none cd_14 3 22 ls (.int 1 :: st) H) ∧
  (∀ ls st H, aGo cl none cd_14 3 22 ls st H = aBin (fun st => aGo cl none cd_14 3 23 ls st H) (fun x y => x + y) st) ∧
  (∀ ls st H, aGo cl none cd_14 3 23 ls st H = aMin (fun st => aGo cl none cd_14 3 26 ls st H) st) ∧
  (∀ ls st H, aGo cl none cd_14 3 26 ls st H = aPut (fun st H => aGo cl none cd_14 3 29 ls st H) 0 12 H st) ∧
  (∀ ls st H, aGo cl none cd_14 3 29 ls st H = aVret 3 st H) ∧
  (∀ ls st H, aGo cl none cd_14 3 30 ls st H = aRLoad (fun st => aGo cl none cd_14 3 31 ls st H) ls 0 st) ∧
  (∀ ls st H, aGo cl none cd_14 3 31 ls st H = aGo cl none cd_14 3 34 ls (.int 9999 :: st) H) ∧
  (∀ ls st H, aGo cl none cd_14 3 34 ls st H = aRLoad (fun st => aGo cl none cd_14 3 35 ls st H) ls 0 st) ∧
  (∀ ls st H, aGo cl none cd_14 3 35 ls st H = aGet (fun st => aGo cl none cd_14 3 38 ls st H) 0 11 H st) ∧
  (∀ ls st H, aGo cl none cd_14 3 38 ls st H = aGo cl none cd_14 3 39 ls (.int 1 :: st) H) ∧
  (∀ ls st H, aGo cl none cd_14 3 39 ls st H = aBin (fun st => aGo cl none cd_14 3 40 ls st H) (fun x y => x + y) st) ∧
  (∀ ls st H, aGo cl none cd_14 3 40 ls st H = aMin (fun st => aGo cl none cd_14 3 43 ls st H) st) ∧
  (∀ ls st H, aGo cl none cd_14 3 43 ls st H = aPut (fun st H => aGo cl none cd_14 3 46 ls st H) 0 11 H st) ∧
  (∀ ls st H, aGo cl none cd_14 3 46 ls st H = aRLoad (fun st => aGo cl none cd_14 3 47 ls st H) ls 0 st) ∧
  (∀ ls st H, aGo cl none cd_14 3 47 ls st H = aRLoad (fun st => aGo cl none cd_14 3 48 ls st H) ls 2 st) ∧
  (∀ ls st H, aGo cl none cd_14 3 48 ls st H = aGet (fun st => aGo cl none cd_14 3 51 ls st H) 5 0 H st) ∧
  (∀ ls st H, aGo cl none cd_14 3 51 ls st H = aCallV (fun st H => aGo cl none cd_14 3 54 ls st H) cl 2 1 0 H st) ∧
  (∀ ls st H, aGo cl none cd_14 3 54 ls st H = aRStore (fun ls st => aGo cl none cd_14 3 55 ls st H) ls 3 st) ∧
  (∀ ls st H, aGo cl none cd_14 3 55 ls st H = aRLoad (fun st => aGo cl none cd_14 3 56 ls st H) ls 3 st) ∧
  (∀ ls st H, aGo cl none cd_14 3 56 ls st H = aNul (fun p st => aGo cl none cd_14 3 p ls st H) 63 59 st) ∧
  (∀ ls st H, aGo cl none cd_14 3 59 ls st H = aRLoad (fun st => aGo cl none cd_14 3 60 ls st H) ls 3 st) ∧
  (∀ ls st H, aGo cl none cd_14 3 60 ls st H = aCallV (fun st H => aGo cl none cd_14 3 63 ls st H) cl 36 0 2 H st) ∧
  (∀ ls st H, aGo cl none cd_14 3 63 ls st H = aVret 3 st H) :=
  ⟨fun _ _ _ => (aGo_s rfl).trans rfl, fun _ _ _ => (aGo_s rfl).trans rfl, fun _ _ _ => (aGo_s rfl).trans rfl, fun _ _ _ => (aGo_s rfl).trans rfl, fun _ _ _ => (aGo_s rfl).trans rfl, fun _ _ _ => (aGo_s rfl).trans rfl, fun _ _ _ => (aGo_s rfl).trans rfl, fun _ _ _ => (aGo_s rfl).trans rfl, fun _ _ _ => (aGo_s rfl).trans rfl, fun _ _ _ => (aGo_s rfl).trans rfl, fun _ _ _ => (aGo_s rfl).trans rfl, fun _ _ _ => (aGo_s rfl).trans rfl, fun _ _ _ => (aGo_s rfl).trans rfl, fun _ _ _ => (aGo_s rfl).trans rfl, fun _ _ _ => (aGo_s rfl).trans rfl, fun _ _ _ => (aGo_s rfl).trans rfl, fun _ _ _ => (aGo_s rfl).trans rfl, fun _ _ _ => (aGo_s rfl).trans rfl, fun _ _ _ => (aGo_s rfl).trans rfl, fun _ _ _ => (aGo_s rfl).trans rfl, fun _ _ _ => (aGo_s rfl).trans rfl, fun _ _ _ => (aGo_s rfl).trans rfl, fun _ _ _ => (aGo_s rfl).trans rfl, fun _ _ _ => (aGo_s rfl).trans rfl, fun _ _ _ => (aGo_s rfl).trans rfl, fun _ _ _ => (aGo_s rfl).trans rfl, fun _ _ _ => (aGo_s rfl).trans rfl, fun _ _ _ => (aGo_s rfl).trans rfl, fun _ _ _ => (aGo_s rfl).trans rfl, fun _ _ _ => (aGo_s rfl).trans rfl, fun _ _ _ => (aGo_s rfl).trans rfl, fun _ _ _ => (aGo_s rfl).trans rfl, fun _ _ _ => (aGo_s rfl).trans rfl, fun _ _ _ => (aGo_s rfl).trans rfl⟩
theorem e_14 {d : Nat} {x0 : Nat} {x1 : Nat} {x2 : Nat} {H : aH} : aCall aMt (d + 1) 14 [.ref x0, .ref x1, .ref x2] H = aGo (aCall aMt d) none cd_14 3 0 [some (.ref x0), some (.ref x1), some (.ref x2), none] [] H := (c_0 rfl ⟨rfl, Nat.le_of_ble_eq_true rfl, Nat.le_of_ble_eq_true rfl⟩).trans rfl
theorem s_15 {cl : Nat → List Value → aH → aRs} : (∀ ls st H, aGo cl none cd_15 0 0 ls st H = aGo cl none cd_15 0 1 ls (.int 0 :: st) H) ∧
  (∀ ls st H, aGo cl none cd_15 0 1 ls st H = aIStore (fun ls st => aGo cl none cd_15 0 2 ls st H) ls 2 st) ∧
  (∀ ls st H, aGo cl none cd_15 0 2 ls st H = aGo cl none cd_15 0 3 ls (.int 0 :: st) H) ∧
  (∀ ls st H, aGo cl none cd_15 0 3 ls st H = aIStore (fun ls st => aGo cl none cd_15 0 4 ls st H) ls 3 st) ∧
  (∀ ls st H, aGo cl none cd_15 0 5 ls st H = aRLoad (fun st => aGo cl none cd_15 0 6 ls st H) ls 0 st) ∧
  (∀ ls st H, aGo cl none cd_15 0 6 ls st H = aGet (fun st => aGo cl none cd_15 0 9 ls st H) 0 7 H st) ∧
  (∀ ls st H, aGo cl none cd_15 0 9 ls st H = aIc (fun p st => aGo cl none cd_15 0 p ls st H) .ge 56 12 st) ∧
  (∀ ls st H, aGo cl none cd_15 0 12 ls st H = aRLoad (fun st => aGo cl none cd_15 0 13 ls st H) ls 0 st) ∧
  (∀ ls st H, aGo cl none cd_15 0 13 ls st H = aGet (fun st => aGo cl none cd_15 0 16 ls st H) 0 1 H st) ∧
  (∀ ls st H, aGo cl none cd_15 0 16 ls st H = aILoad (fun st => aGo cl none cd_15 0 17 ls st H) ls 3 st) ∧
  (∀ ls st H, aGo cl none cd_15 0 17 ls st H = aAald (fun st => aGo cl none cd_15 0 18 ls st H) H st) ∧
  (∀ ls st H, aGo cl none cd_15 0 18 ls st H = aGet (fun st => aGo cl none cd_15 0 21 ls st H) 5 5 H st) ∧
  (∀ ls st H, aGo cl none cd_15 0 21 ls st H = aIf (fun p st => aGo cl none cd_15 0 p ls st H) .eq 50 24 st) ∧
  (∀ ls st H, aGo cl none cd_15 0 24 ls st H = aRLoad (fun st => aGo cl none cd_15 0 25 ls st H) ls 0 st) ∧
  (∀ ls st H, aGo cl none cd_15 0 25 ls st H = aGet (fun st => aGo cl none cd_15 0 28 ls st H) 0 1 H st) ∧
  (∀ ls st H, aGo cl none cd_15 0 28 ls st H = aILoad (fun st => aGo cl none cd_15 0 29 ls st H) ls 3 st) ∧
  (∀ ls st H, aGo cl none cd_15 0 29 ls st H = aAald (fun st => aGo cl none cd_15 0 30 ls st H) H st) ∧
  (∀ ls st H, aGo cl none cd_15 0 30 ls st H = aGet (fun st => aGo cl none cd_15 0 33 ls st H) 5 3 H st) ∧
  (∀ ls st H, aGo cl none cd_15 0 33 ls st H = aILoad (fun st => aGo cl none cd_15 0 34 ls st H) ls 1 st) ∧
  (∀ ls st H, aGo cl none cd_15 0 34 ls st H = aIc (fun p st => aGo cl none cd_15 0 p ls st H) .lt 50 37 st) ∧
  (∀ ls st H, aGo cl none cd_15 0 37 ls st H = aRLoad (fun st => aGo cl none cd_15 0 38 ls st H) ls 0 st) ∧
  (∀ ls st H, aGo cl none cd_15 0 38 ls st H = aGet (fun st => aGo cl none cd_15 0 41 ls st H) 0 1 H st) ∧
  (∀ ls st H, aGo cl none cd_15 0 41 ls st H = aILoad (fun st => aGo cl none cd_15 0 42 ls st H) ls 3 st) ∧
  (∀ ls st H, aGo cl none cd_15 0 42 ls st H = aAald (fun st => aGo cl none cd_15 0 43 ls st H) H st) ∧
  (∀ ls st H, aGo cl none cd_15 0 43 ls st H = aGo cl none cd_15 0 44 ls (.int (-1) :: st) H) ∧
  (∀ ls st H, aGo cl none cd_15 0 44 ls st H = aCallV (fun st H => aGo cl none cd_15 0 47 ls st H) cl 54 1 5 H st) ∧
  (∀ ls st H, aGo cl none cd_15 0 47 ls st H = aInc (fun ls => aGo cl none cd_15 0 50 ls st H) ls 2 1) ∧
  (∀ ls st H, aGo cl none cd_15 0 50 ls st H = aInc (fun ls => aGo cl none cd_15 0 53 ls st H) ls 3 1) ∧
  (∀ ls st H, aGo cl none cd_15 0 53 ls st H = aGo cl none cd_15 0 4 ls st H) ∧
  (∀ ls st H, aGo cl none cd_15 0 56 ls st H = aRLoad (fun st => aGo cl none cd_15 0 57 ls st H) ls 0 st) ∧
  (∀ ls st H, aGo cl none cd_15 0 57 ls st H = aGo cl none cd_15 0 60 ls (.int 9999 :: st) H) ∧
  (∀ ls st H, aGo cl none cd_15 0 60 ls st H = aRLoad (fun st => aGo cl none cd_15 0 61 ls st H) ls 0 st) ∧
  (∀ ls st H, aGo cl none cd_15 0 61 ls st H = aGet (fun st => aGo cl none cd_15 0 64 ls st H) 0 13 H st) ∧
  (∀ ls st H, aGo cl none cd_15 0 64 ls st H = aILoad (fun st => aGo cl none cd_15 0 65 ls st H) ls 2 st) ∧
  (∀ ls st H, aGo cl none cd_15 0 65 ls st H = aBin (fun st => aGo cl none cd_15 0 66 ls st H) (fun x y => x + y) st) ∧
  (∀ ls st H, aGo cl none cd_15 0 66 ls st H = aMin (fun st => aGo cl none cd_15 0 69 ls st H) st) ∧
  (∀ ls st H, aGo cl none cd_15 0 69 ls st H = aPut (fun st H => aGo cl none cd_15 0 72 ls st H) 0 13 H st) ∧
  (∀ ls st H, aGo cl none cd_15 0 72 ls st H = aILoad (fun st => aGo cl none cd_15 0 73 ls st H) ls 2 st) ∧
  (∀ ls st H, aGo cl none cd_15 0 73 ls st H = aIret 0 st H) :=
  ⟨fun _ _ _ => (aGo_s rfl).trans rfl, fun _ _ _ => (aGo_s rfl).trans rfl, fun _ _ _ => (aGo_s rfl).trans rfl, fun _ _ _ => (aGo_s rfl).trans rfl, fun _ _ _ => (aGo_s rfl).trans rfl, fun _ _ _ => (aGo_s rfl).trans rfl, fun _ _ _ => (aGo_s rfl).trans rfl, fun _ _ _ => (aGo_s rfl).trans rfl, fun _ _ _ => (aGo_s rfl).trans rfl, fun _ _ _ => (aGo_s rfl).trans rfl, fun _ _ _ => (aGo_s rfl).trans rfl, fun _ _ _ => (aGo_s rfl).trans rfl, fun _ _ _ => (aGo_s rfl).trans rfl, fun _ _ _ => (aGo_s rfl).trans rfl, fun _ _ _ => (aGo_s rfl).trans rfl, fun _ _ _ => (aGo_s rfl).trans rfl, fun _ _ _ => (aGo_s rfl).trans rfl, fun _ _ _ => (aGo_s rfl).trans rfl, fun _ _ _ => (aGo_s rfl).trans rfl, fun _ _ _ => (aGo_s rfl).trans rfl, fun _ _ _ => (aGo_s rfl).trans rfl, fun _ _ _ => (aGo_s rfl).trans rfl, fun _ _ _ => (aGo_s rfl).trans rfl, fun _ _ _ => (aGo_s rfl).trans rfl, fun _ _ _ => (aGo_s rfl).trans rfl, fun _ _ _ => (aGo_s rfl).trans rfl, fun _ _ _ => (aGo_s rfl).trans rfl, fun _ _ _ => (aGo_s rfl).trans rfl, fun _ _ _ => (aGo_s rfl).trans rfl, fun _ _ _ => (aGo_s rfl).trans rfl, fun _ _ _ => (aGo_s rfl).trans rfl, fun _ _ _ => (aGo_s rfl).trans rfl, fun _ _ _ => (aGo_s rfl).trans rfl, fun _ _ _ => (aGo_s rfl).trans rfl, fun _ _ _ => (aGo_s rfl).trans rfl, fun _ _ _ => (aGo_s rfl).trans rfl, fun _ _ _ => (aGo_s rfl).trans rfl, fun _ _ _ => (aGo_s rfl).trans rfl, fun _ _ _ => (aGo_s rfl).trans rfl⟩
theorem s_15_4 {cl : Nat → List Value → aH → aRs} : ∀ ls st H, aGo cl none cd_15 0 4 ls st H = aILoad (fun st => aGo cl none cd_15 0 5 ls st H) ls 3 st := fun _ _ _ => (aGo_s rfl).trans rfl
theorem e_15 {d : Nat} {x0 : Nat} {x1 : Int32} {H : aH} : aCall aMt (d + 1) 15 [.ref x0, .int x1] H = aGo (aCall aMt d) none cd_15 0 0 [some (.ref x0), some (.int x1), none, none] [] H := (c_0 rfl ⟨rfl, Nat.le_of_ble_eq_true rfl, Nat.le_of_ble_eq_true rfl⟩).trans rfl
theorem s_16 {cl : Nat → List Value → aH → aRs} : (∀ ls st H, aGo cl none cd_16 0 0 ls st H = aRLoad (fun st => aGo cl none cd_16 0 1 ls st H) ls 0 st) ∧
  (∀ ls st H, aGo cl none cd_16 0 1 ls st H = aRLoad (fun st => aGo cl none cd_16 0 2 ls st H) ls 0 st) ∧
  (∀ ls st H, aGo cl none cd_16 0 2 ls st H = aGet (fun st => aGo cl none cd_16 0 5 ls st H) 0 14 H st) ∧
  (∀ ls st H, aGo cl none cd_16 0 5 ls st H = aGo cl none cd_16 0 7 ls (.int 1103515245 :: st) H) ∧
  (∀ ls st H, aGo cl none cd_16 0 7 ls st H = aBin (fun st => aGo cl none cd_16 0 8 ls st H) (fun x y => x * y) st) ∧
  (∀ ls st H, aGo cl none cd_16 0 8 ls st H = aGo cl none cd_16 0 11 ls (.int 12345 :: st) H) ∧
  (∀ ls st H, aGo cl none cd_16 0 11 ls st H = aBin (fun st => aGo cl none cd_16 0 12 ls st H) (fun x y => x + y) st) ∧
  (∀ ls st H, aGo cl none cd_16 0 12 ls st H = aPut (fun st H => aGo cl none cd_16 0 15 ls st H) 0 14 H st) ∧
  (∀ ls st H, aGo cl none cd_16 0 15 ls st H = aILoad (fun st => aGo cl none cd_16 0 16 ls st H) ls 1 st) ∧
  (∀ ls st H, aGo cl none cd_16 0 16 ls st H = aIf (fun p st => aGo cl none cd_16 0 p ls st H) .le 31 19 st) ∧
  (∀ ls st H, aGo cl none cd_16 0 19 ls st H = aRLoad (fun st => aGo cl none cd_16 0 20 ls st H) ls 0 st) ∧
  (∀ ls st H, aGo cl none cd_16 0 20 ls st H = aGet (fun st => aGo cl none cd_16 0 23 ls st H) 0 14 H st) ∧
  (∀ ls st H, aGo cl none cd_16 0 23 ls st H = aGo cl none cd_16 0 25 ls (.int 8 :: st) H) ∧
  (∀ ls st H, aGo cl none cd_16 0 25 ls st H = aBin (fun st => aGo cl none cd_16 0 26 ls st H) (fun x y => (x.toUInt32 >>> (y.toUInt32 &&& Int32.toUInt32 31)).toInt32) st) ∧
  (∀ ls st H, aGo cl none cd_16 0 26 ls st H = aILoad (fun st => aGo cl none cd_16 0 27 ls st H) ls 1 st) ∧
  (∀ ls st H, aGo cl none cd_16 0 27 ls st H = aRem (fun st => aGo cl none cd_16 0 28 ls st H) st) ∧
  (∀ ls st H, aGo cl none cd_16 0 28 ls st H = aGo cl none cd_16 0 32 ls st H) ∧
  (∀ ls st H, aGo cl none cd_16 0 31 ls st H = aGo cl none cd_16 0 32 ls (.int 0 :: st) H) ∧
  (∀ ls st H, aGo cl none cd_16 0 32 ls st H = aIret 0 st H) :=
  ⟨fun _ _ _ => (aGo_s rfl).trans rfl, fun _ _ _ => (aGo_s rfl).trans rfl, fun _ _ _ => (aGo_s rfl).trans rfl, fun _ _ _ => (aGo_s rfl).trans rfl, fun _ _ _ => (aGo_s rfl).trans rfl, fun _ _ _ => (aGo_s rfl).trans rfl, fun _ _ _ => (aGo_s rfl).trans rfl, fun _ _ _ => (aGo_s rfl).trans rfl, fun _ _ _ => (aGo_s rfl).trans rfl, fun _ _ _ => (aGo_s rfl).trans rfl, fun _ _ _ => (aGo_s rfl).trans rfl, fun _ _ _ => (aGo_s rfl).trans rfl, fun _ _ _ => (aGo_s rfl).trans rfl, fun _ _ _ => (aGo_s rfl).trans rfl, fun _ _ _ => (aGo_s rfl).trans rfl, fun _ _ _ => (aGo_s rfl).trans rfl, fun _ _ _ => (aGo_s rfl).trans rfl, fun _ _ _ => (aGo_s rfl).trans rfl, fun _ _ _ => (aGo_s rfl).trans rfl⟩
theorem e_16 {d : Nat} {x0 : Nat} {x1 : Int32} {H : aH} : aCall aMt (d + 1) 16 [.ref x0, .int x1] H = aGo (aCall aMt d) none cd_16 0 0 [some (.ref x0), some (.int x1)] [] H := (c_0 rfl ⟨rfl, Nat.le_of_ble_eq_true rfl, Nat.le_of_ble_eq_true rfl⟩).trans rfl
theorem s_17 {cl : Nat → List Value → aH → aRs} : (∀ ls st H, aGo cl none cd_17 0 0 ls st H = aGo cl none cd_17 0 1 ls (.int (-1) :: st) H) ∧
  (∀ ls st H, aGo cl none cd_17 0 1 ls st H = aIStore (fun ls st => aGo cl none cd_17 0 2 ls st H) ls 1 st) ∧
  (∀ ls st H, aGo cl none cd_17 0 2 ls st H = aRLoad (fun st => aGo cl none cd_17 0 3 ls st H) ls 0 st) ∧
  (∀ ls st H, aGo cl none cd_17 0 3 ls st H = aGet (fun st => aGo cl none cd_17 0 6 ls st H) 0 6 H st) ∧
  (∀ ls st H, aGo cl none cd_17 0 6 ls st H = aIf (fun p st => aGo cl none cd_17 0 p ls st H) .le 43 9 st) ∧
  (∀ ls st H, aGo cl none cd_17 0 9 ls st H = aRLoad (fun st => aGo cl none cd_17 0 10 ls st H) ls 0 st) ∧
  (∀ ls st H, aGo cl none cd_17 0 10 ls st H = aRLoad (fun st => aGo cl none cd_17 0 11 ls st H) ls 0 st) ∧
  (∀ ls st H, aGo cl none cd_17 0 11 ls st H = aRLoad (fun st => aGo cl none cd_17 0 12 ls st H) ls 0 st) ∧
  (∀ ls st H, aGo cl none cd_17 0 12 ls st H = aGet (fun st => aGo cl none cd_17 0 15 ls st H) 0 6 H st) ∧
  (∀ ls st H, aGo cl none cd_17 0 15 ls st H = aCallV (fun st H => aGo cl none cd_17 0 18 ls st H) cl 16 1 0 H st) ∧
  (∀ ls st H, aGo cl none cd_17 0 18 ls st H = aCallV (fun st H => aGo cl none cd_17 0 21 ls st H) cl 2 1 0 H st) ∧
  (∀ ls st H, aGo cl none cd_17 0 21 ls st H = aRStore (fun ls st => aGo cl none cd_17 0 22 ls st H) ls 2 st) ∧
  (∀ ls st H, aGo cl none cd_17 0 22 ls st H = aRLoad (fun st => aGo cl none cd_17 0 23 ls st H) ls 0 st) ∧
  (∀ ls st H, aGo cl none cd_17 0 23 ls st H = aGo cl none cd_17 0 24 ls (.int 2 :: st) H) ∧
  (∀ ls st H, aGo cl none cd_17 0 24 ls st H = aCallV (fun st H => aGo cl none cd_17 0 27 ls st H) cl 16 1 0 H st) ∧
  (∀ ls st H, aGo cl none cd_17 0 27 ls st H = aIStore (fun ls st => aGo cl none cd_17 0 28 ls st H) ls 3 st) ∧
  (∀ ls st H, aGo cl none cd_17 0 28 ls st H = aRLoad (fun st => aGo cl none cd_17 0 29 ls st H) ls 2 st) ∧
  (∀ ls st H, aGo cl none cd_17 0 29 ls st H = aNul (fun p st => aGo cl none cd_17 0 p ls st H) 32 36 st) ∧
  (∀ ls st H, aGo cl none cd_17 0 32 ls st H = aGo cl none cd_17 0 33 ls (.int (-1) :: st) H) ∧
  (∀ ls st H, aGo cl none cd_17 0 33 ls st H = aGo cl none cd_17 0 42 ls st H) ∧
  (∀ ls st H, aGo cl none cd_17 0 36 ls st H = aRLoad (fun st => aGo cl none cd_17 0 37 ls st H) ls 0 st) ∧
  (∀ ls st H, aGo cl none cd_17 0 37 ls st H = aRLoad (fun st => aGo cl none cd_17 0 38 ls st H) ls 2 st) ∧
  (∀ ls st H, aGo cl none cd_17 0 38 ls st H = aILoad (fun st => aGo cl none cd_17 0 39 ls st H) ls 3 st) ∧
  (∀ ls st H, aGo cl none cd_17 0 39 ls st H = aCallV (fun st H => aGo cl none cd_17 0 42 ls st H) cl 13 2 0 H st) ∧
  (∀ ls st H, aGo cl none cd_17 0 42 ls st H = aIStore (fun ls st => aGo cl none cd_17 0 43 ls st H) ls 1 st) ∧
  (∀ ls st H, aGo cl none cd_17 0 43 ls st H = aRLoad (fun st => aGo cl none cd_17 0 44 ls st H) ls 0 st) ∧
  (∀ ls st H, aGo cl none cd_17 0 44 ls st H = aCallV (fun st H => aGo cl none cd_17 0 47 ls st H) cl 18 0 0 H st) ∧
  (∀ ls st H, aGo cl none cd_17 0 47 ls st H = aILoad (fun st => aGo cl none cd_17 0 48 ls st H) ls 1 st) ∧
  (∀ ls st H, aGo cl none cd_17 0 48 ls st H = aIret 0 st H) :=
  ⟨fun _ _ _ => (aGo_s rfl).trans rfl, fun _ _ _ => (aGo_s rfl).trans rfl, fun _ _ _ => (aGo_s rfl).trans rfl, fun _ _ _ => (aGo_s rfl).trans rfl, fun _ _ _ => (aGo_s rfl).trans rfl, fun _ _ _ => (aGo_s rfl).trans rfl, fun _ _ _ => (aGo_s rfl).trans rfl, fun _ _ _ => (aGo_s rfl).trans rfl, fun _ _ _ => (aGo_s rfl).trans rfl, fun _ _ _ => (aGo_s rfl).trans rfl, fun _ _ _ => (aGo_s rfl).trans rfl, fun _ _ _ => (aGo_s rfl).trans rfl, fun _ _ _ => (aGo_s rfl).trans rfl, fun _ _ _ => (aGo_s rfl).trans rfl, fun _ _ _ => (aGo_s rfl).trans rfl, fun _ _ _ => (aGo_s rfl).trans rfl, fun _ _ _ => (aGo_s rfl).trans rfl, fun _ _ _ => (aGo_s rfl).trans rfl, fun _ _ _ => (aGo_s rfl).trans rfl, fun _ _ _ => (aGo_s rfl).trans rfl, fun _ _ _ => (aGo_s rfl).trans rfl, fun _ _ _ => (aGo_s rfl).trans rfl, fun _ _ _ => (aGo_s rfl).trans rfl, fun _ _ _ => (aGo_s rfl).trans rfl, fun _ _ _ => (aGo_s rfl).trans rfl, fun _ _ _ => (aGo_s rfl).trans rfl, fun _ _ _ => (aGo_s rfl).trans rfl, fun _ _ _ => (aGo_s rfl).trans rfl, fun _ _ _ => (aGo_s rfl).trans rfl⟩
theorem e_17 {d : Nat} {x0 : Nat} {H : aH} : aCall aMt (d + 1) 17 [.ref x0] H = aGo (aCall aMt d) none cd_17 0 0 [some (.ref x0), none, none, none] [] H := (c_0 rfl ⟨rfl, Nat.le_of_ble_eq_true rfl, Nat.le_of_ble_eq_true rfl⟩).trans rfl
theorem s_18 {cl : Nat → List Value → aH → aRs} : (∀ ls st H, aGo cl none cd_18 3 0 ls st H = aRLoad (fun st => aGo cl none cd_18 3 1 ls st H) ls 0 st) ∧
  (∀ ls st H, aGo cl none cd_18 3 1 ls st H = aDup (fun st => aGo cl none cd_18 3 2 ls st H) st) ∧
  (∀ ls st H, aGo cl none cd_18 3 2 ls st H = aGet (fun st => aGo cl none cd_18 3 5 ls st H) 0 10 H st) ∧
  (∀ ls st H, aGo cl none cd_18 3 5 ls st H = aGo cl none cd_18 3 6 ls (.int 1 :: st) H) ∧
  (∀ ls st H, aGo cl none cd_18 3 6 ls st H = aBin (fun st => aGo cl none cd_18 3 7 ls st H) (fun x y => x + y) st) ∧
  (∀ ls st H, aGo cl none cd_18 3 7 ls st H = aPut (fun st H => aGo cl none cd_18 3 10 ls st H) 0 10 H st) ∧
  (∀ ls st H, aGo cl none cd_18 3 10 ls st H = aGo cl none cd_18 3 11 ls (.int 0 :: st) H) ∧
  (∀ ls st H, aGo cl none cd_18 3 11 ls st H = aIStore (fun ls st => aGo cl none cd_18 3 12 ls st H) ls 1 st) ∧
  (∀ ls st H, aGo cl none cd_18 3 13 ls st H = aRLoad (fun st => aGo cl none cd_18 3 14 ls st H) ls 0 st) ∧
  (∀ ls st H, aGo cl none cd_18 3 14 ls st H = aGet (fun st => aGo cl none cd_18 3 17 ls st H) 0 6 H st) ∧
  (∀ ls st H, aGo cl none cd_18 3 17 ls st H = aIc (fun p st => aGo cl none cd_18 3 p ls st H) .ge 35 20 st) ∧
  (∀ ls st H, aGo cl none cd_18 3 20 ls st H = aRLoad (fun st => aGo cl none cd_18 3 21 ls st H) ls 0 st) ∧
  (∀ ls st H, aGo cl none cd_18 3 21 ls st H = aGet (fun st => aGo cl none cd_18 3 24 ls st H) 0 0 H st) ∧
  (∀ ls st H, aGo cl none cd_18 3 24 ls st H = aILoad (fun st => aGo cl none cd_18 3 25 ls st H) ls 1 st) ∧
  (∀ ls st H, aGo cl none cd_18 3 25 ls st H = aAald (fun st => aGo cl none cd_18 3 26 ls st H) H st) ∧
  (∀ ls st H, aGo cl none cd_18 3 26 ls st H = aCallV (fun st H => aGo cl none cd_18 3 29 ls st H) cl 35 0 2 H st) ∧
  (∀ ls st H, aGo cl none cd_18 3 29 ls st H = aInc (fun ls => aGo cl none cd_18 3 32 ls st H) ls 1 1) ∧
  (∀ ls st H, aGo cl none cd_18 3 32 ls st H = aGo cl none cd_18 3 12 ls st H) ∧
  (∀ ls st H, aGo cl none cd_18 3 35 ls st H = aRLoad (fun st => aGo cl none cd_18 3 36 ls st H) ls 0 st) ∧
  (∀ ls st H, aGo cl none cd_18 3 36 ls st H = aGet (fun st => aGo cl none cd_18 3 39 ls st H) 0 10 H st) ∧
  (∀ ls st H, aGo cl none cd_18 3 39 ls st H = aGo cl none cd_18 3 41 ls (.int 8 :: st) H) ∧
  (∀ ls st H, aGo cl none cd_18 3 41 ls st H = aRem (fun st => aGo cl none cd_18 3 42 ls st H) st) ∧
  (∀ ls st H, aGo cl none cd_18 3 42 ls st H = aIf (fun p st => aGo cl none cd_18 3 p ls st H) .eq 46 45 st) ∧
  (∀ ls st H, aGo cl none cd_18 3 45 ls st H = aVret 3 st H) ∧
  (∀ ls st H, aGo cl none cd_18 3 46 ls st H = aGo cl none cd_18 3 47 ls (.int 0 :: st) H) ∧
  (∀ ls st H, aGo cl none cd_18 3 47 ls st H = aIStore (fun ls st => aGo cl none cd_18 3 48 ls st H) ls 1 st) ∧
  (∀ ls st H, aGo cl none cd_18 3 49 ls st H = aRLoad (fun st => aGo cl none cd_18 3 50 ls st H) ls 0 st) ∧
  (∀ ls st H, aGo cl none cd_18 3 50 ls st H = aGet (fun st => aGo cl none cd_18 3 53 ls st H) 0 7 H st) ∧
  (∀ ls st H, aGo cl none cd_18 3 53 ls st H = aIc (fun p st => aGo cl none cd_18 3 p ls st H) .ge 83 56 st) ∧
  (∀ ls st H, aGo cl none cd_18 3 56 ls st H = aRLoad (fun st => aGo cl none cd_18 3 57 ls st H) ls 0 st) ∧
  (∀ ls st H, aGo cl none cd_18 3 57 ls st H = aGet (fun st => aGo cl none cd_18 3 60 ls st H) 0 1 H st) ∧
  (∀ ls st H, aGo cl none cd_18 3 60 ls st H = aILoad (fun st => aGo cl none cd_18 3 61 ls st H) ls 1 st) ∧
  (∀ ls st H, aGo cl none cd_18 3 61 ls st H = aAald (fun st => aGo cl none cd_18 3 62 ls st H) H st) ∧
  (∀ ls st H, aGo cl none cd_18 3 62 ls st H = aGet (fun st => aGo cl none cd_18 3 65 ls st H) 5 5 H st) ∧
  (∀ ls st H, aGo cl none cd_18 3 65 ls st H = aIf (fun p st => aGo cl none cd_18 3 p ls st H) .eq 77 68 st) ∧
  (∀ ls st H, aGo cl none cd_18 3 68 ls st H = aRLoad (fun st => aGo cl none cd_18 3 69 ls st H) ls 0 st) ∧
  (∀ ls st H, aGo cl none cd_18 3 69 ls st H = aGet (fun st => aGo cl none cd_18 3 72 ls st H) 0 1 H st) ∧
  (∀ ls st H, aGo cl none cd_18 3 72 ls st H = aILoad (fun st => aGo cl none cd_18 3 73 ls st H) ls 1 st) ∧
  (∀ ls st H, aGo cl none cd_18 3 73 ls st H = aAald (fun st => aGo cl none cd_18 3 74 ls st H) H st) ∧
  (∀ ls st H, aGo cl none cd_18 3 74 ls st H = aCallV (fun st H => aGo cl none cd_18 3 77 ls st H) cl 56 0 5 H st) ∧
  (∀ ls st H, aGo cl none cd_18 3 77 ls st H = aInc (fun ls => aGo cl none cd_18 3 80 ls st H) ls 1 1) ∧
  (∀ ls st H, aGo cl none cd_18 3 80 ls st H = aGo cl none cd_18 3 48 ls st H) ∧
  (∀ ls st H, aGo cl none cd_18 3 83 ls st H = aVret 3 st H) :=
  ⟨fun _ _ _ => (aGo_s rfl).trans rfl, fun _ _ _ => (aGo_s rfl).trans rfl, fun _ _ _ => (aGo_s rfl).trans rfl, fun _ _ _ => (aGo_s rfl).trans rfl, fun _ _ _ => (aGo_s rfl).trans rfl, fun _ _ _ => (aGo_s rfl).trans rfl, fun _ _ _ => (aGo_s rfl).trans rfl, fun _ _ _ => (aGo_s rfl).trans rfl, fun _ _ _ => (aGo_s rfl).trans rfl, fun _ _ _ => (aGo_s rfl).trans rfl, fun _ _ _ => (aGo_s rfl).trans rfl, fun _ _ _ => (aGo_s rfl).trans rfl, fun _ _ _ => (aGo_s rfl).trans rfl, fun _ _ _ => (aGo_s rfl).trans rfl, fun _ _ _ => (aGo_s rfl).trans rfl, fun _ _ _ => (aGo_s rfl).trans rfl, fun _ _ _ => (aGo_s rfl).trans rfl, fun _ _ _ => (aGo_s rfl).trans rfl, fun _ _ _ => (aGo_s rfl).trans rfl, fun _ _ _ => (aGo_s rfl).trans rfl, fun _ _ _ => (aGo_s rfl).trans rfl, fun _ _ _ => (aGo_s rfl).trans rfl, fun _ _ _ => (aGo_s rfl).trans rfl, fun _ _ _ => (aGo_s rfl).trans rfl, fun _ _ _ => (aGo_s rfl).trans rfl, fun _ _ _ => (aGo_s rfl).trans rfl, fun _ _ _ => (aGo_s rfl).trans rfl, fun _ _ _ => (aGo_s rfl).trans rfl, fun _ _ _ => (aGo_s rfl).trans rfl, fun _ _ _ => (aGo_s rfl).trans rfl, fun _ _ _ => (aGo_s rfl).trans rfl, fun _ _ _ => (aGo_s rfl).trans rfl, fun _ _ _ => (aGo_s rfl).trans rfl, fun _ _ _ => (aGo_s rfl).trans rfl, fun _ _ _ => (aGo_s rfl).trans rfl, fun _ _ _ => (aGo_s rfl).trans rfl, fun _ _ _ => (aGo_s rfl).trans rfl, fun _ _ _ => (aGo_s rfl).trans rfl, fun _ _ _ => (aGo_s rfl).trans rfl, fun _ _ _ => (aGo_s rfl).trans rfl, fun _ _ _ => (aGo_s rfl).trans rfl, fun _ _ _ => (aGo_s rfl).trans rfl, fun _ _ _ => (aGo_s rfl).trans rfl⟩
theorem s_18_12 {cl : Nat → List Value → aH → aRs} : ∀ ls st H, aGo cl none cd_18 3 12 ls st H = aILoad (fun st => aGo cl none cd_18 3 13 ls st H) ls 1 st := fun _ _ _ => (aGo_s rfl).trans rfl
theorem s_18_48 {cl : Nat → List Value → aH → aRs} : ∀ ls st H, aGo cl none cd_18 3 48 ls st H = aILoad (fun st => aGo cl none cd_18 3 49 ls st H) ls 1 st := fun _ _ _ => (aGo_s rfl).trans rfl
theorem e_18 {d : Nat} {x0 : Nat} {H : aH} : aCall aMt (d + 1) 18 [.ref x0] H = aGo (aCall aMt d) none cd_18 3 0 [some (.ref x0), none] [] H := (c_0 rfl ⟨rfl, Nat.le_of_ble_eq_true rfl, Nat.le_of_ble_eq_true rfl⟩).trans rfl
theorem s_20 {cl : Nat → List Value → aH → aRs} : (∀ ls st H, aGo cl none cd_20 3 0 ls st H = aRLoad (fun st => aGo cl none cd_20 3 1 ls st H) ls 0 st) ∧
  (∀ ls st H, aGo cl none cd_20 3 1 ls st H = aGo cl none cd_20 3 2 ls (.int 0 :: st) H) ∧
  (∀ ls st H, aGo cl none cd_20 3 2 ls st H = aPut (fun st H => aGo cl none cd_20 3 5 ls st H) 1 4 H st) ∧
  (∀ ls st H, aGo cl none cd_20 3 5 ls st H = aVret 3 st H) :=
  ⟨fun _ _ _ => (aGo_s rfl).trans rfl, fun _ _ _ => (aGo_s rfl).trans rfl, fun _ _ _ => (aGo_s rfl).trans rfl, fun _ _ _ => (aGo_s rfl).trans rfl⟩
theorem e_20 {d : Nat} {x0 : Nat} {H : aH} : aCall aMt (d + 1) 20 [.ref x0] H = aGo (aCall aMt d) none cd_20 3 0 [some (.ref x0)] [] H := (c_0 rfl ⟨rfl, Nat.le_of_ble_eq_true rfl, Nat.le_of_ble_eq_true rfl⟩).trans rfl
theorem s_21 {cl : Nat → List Value → aH → aRs} : (∀ ls st H, aGo cl none cd_21 1 0 ls st H = aRLoad (fun st => aGo cl none cd_21 1 1 ls st H) ls 0 st) ∧
  (∀ ls st H, aGo cl none cd_21 1 1 ls st H = aGet (fun st => aGo cl none cd_21 1 4 ls st H) 1 4 H st) ∧
  (∀ ls st H, aGo cl none cd_21 1 4 ls st H = aIf (fun p st => aGo cl none cd_21 1 p ls st H) .le 11 7 st) ∧
  (∀ ls st H, aGo cl none cd_21 1 7 ls st H = aGo cl none cd_21 1 8 ls (.int 1 :: st) H) ∧
  (∀ ls st H, aGo cl none cd_21 1 8 ls st H = aGo cl none cd_21 1 12 ls st H) ∧
  (∀ ls st H, aGo cl none cd_21 1 11 ls st H = aGo cl none cd_21 1 12 ls (.int 0 :: st) H) ∧
  (∀ ls st H, aGo cl none cd_21 1 12 ls st H = aIret 1 st H) :=
  ⟨fun _ _ _ => (aGo_s rfl).trans rfl, fun _ _ _ => (aGo_s rfl).trans rfl, fun _ _ _ => (aGo_s rfl).trans rfl, fun _ _ _ => (aGo_s rfl).trans rfl, fun _ _ _ => (aGo_s rfl).trans rfl, fun _ _ _ => (aGo_s rfl).trans rfl, fun _ _ _ => (aGo_s rfl).trans rfl⟩
theorem e_21 {d : Nat} {x0 : Nat} {H : aH} : aCall aMt (d + 1) 21 [.ref x0] H = aGo (aCall aMt d) none cd_21 1 0 [some (.ref x0)] [] H := (c_0 rfl ⟨rfl, Nat.le_of_ble_eq_true rfl, Nat.le_of_ble_eq_true rfl⟩).trans rfl
theorem s_22 {cl : Nat → List Value → aH → aRs} : (∀ ls st H, aGo cl none cd_22 3 0 ls st H = aRLoad (fun st => aGo cl none cd_22 3 1 ls st H) ls 0 st) ∧
  (∀ ls st H, aGo cl none cd_22 3 1 ls st H = aRLoad (fun st => aGo cl none cd_22 3 2 ls st H) ls 1 st) ∧
  (∀ ls st H, aGo cl none cd_22 3 2 ls st H = aGet (fun st => aGo cl none cd_22 3 5 ls st H) 1 4 H st) ∧
  (∀ ls st H, aGo cl none cd_22 3 5 ls st H = aPut (fun st H => aGo cl none cd_22 3 8 ls st H) 1 4 H st) ∧
  (∀ ls st H, aGo cl none cd_22 3 8 ls st H = aRLoad (fun st => aGo cl none cd_22 3 9 ls st H) ls 1 st) ∧
  (∀ ls st H, aGo cl none cd_22 3 9 ls st H = aGet (fun st => aGo cl none cd_22 3 12 ls st H) 1 1 H st) ∧
  (∀ ls st H, aGo cl none cd_22 3 12 ls st H = aGo cl none cd_22 3 13 ls (.int 0 :: st) H) ∧
  (∀ ls st H, aGo cl none cd_22 3 13 ls st H = aRLoad (fun st => aGo cl none cd_22 3 14 ls st H) ls 0 st) ∧
  (∀ ls st H, aGo cl none cd_22 3 14 ls st H = aGet (fun st => aGo cl none cd_22 3 17 ls st H) 1 1 H st) ∧
  (∀ ls st H, aGo cl none cd_22 3 17 ls st H = aGo cl none cd_22 3 18 ls (.int 0 :: st) H) ∧
  (∀ ls st H, aGo cl none cd_22 3 18 ls st H = aGo cl none cd_22 3 20 ls (.int 60 :: st) H) ∧
  (∀ ls st H, aGo cl none cd_22 3 20 ls st H = aCopy (fun st H => aGo cl none cd_22 3 23 ls st H) H st) ∧
  (∀ ls st H, aGo cl none cd_22 3 23 ls st H = aRLoad (fun st => aGo cl none cd_22 3 24 ls st H) ls 1 st) ∧
  (∀ ls st H, aGo cl none cd_22 3 24 ls st H = aGet (fun st => aGo cl none cd_22 3 27 ls st H) 1 2 H st) ∧
  (∀ ls st H, aGo cl none cd_22 3 27 ls st H = aGo cl none cd_22 3 28 ls (.int 0 :: st) H) ∧
  (∀ ls st H, aGo cl none cd_22 3 28 ls st H = aRLoad (fun st => aGo cl none cd_22 3 29 ls st H) ls 0 st) ∧
  (∀ ls st H, aGo cl none cd_22 3 29 ls st H = aGet (fun st => aGo cl none cd_22 3 32 ls st H) 1 2 H st) ∧
  (∀ ls st H, aGo cl none cd_22 3 32 ls st H = aGo cl none cd_22 3 33 ls (.int 0 :: st) H) ∧
  (∀ ls st H, aGo cl none cd_22 3 33 ls st H = aGo cl none cd_22 3 35 ls (.int 60 :: st) H) ∧
  (∀ ls st H, aGo cl none cd_22 3 35 ls st H = aCopy (fun st H => aGo cl none cd_22 3 38 ls st H) H st) ∧
  (∀ ls st H, aGo cl none cd_22 3 38 ls st H = aVret 3 st H) :=
  ⟨fun _ _ _ => (aGo_s rfl).trans rfl, fun _ _ _ => (aGo_s rfl).trans rfl, fun _ _ _ => (aGo_s rfl).trans rfl, fun _ _ _ => (aGo_s rfl).trans rfl, fun _ _ _ => (aGo_s rfl).trans rfl, fun _ _ _ => (aGo_s rfl).trans rfl, fun _ _ _ => (aGo_s rfl).trans rfl, fun _ _ _ => (aGo_s rfl).trans rfl, fun _ _ _ => (aGo_s rfl).trans rfl, fun _ _ _ => (aGo_s rfl).trans rfl, fun _ _ _ => (aGo_s rfl).trans rfl, fun _ _ _ => (aGo_s rfl).trans rfl, fun _ _ _ => (aGo_s rfl).trans rfl, fun _ _ _ => (aGo_s rfl).trans rfl, fun _ _ _ => (aGo_s rfl).trans rfl, fun _ _ _ => (aGo_s rfl).trans rfl, fun _ _ _ => (aGo_s rfl).trans rfl, fun _ _ _ => (aGo_s rfl).trans rfl, fun _ _ _ => (aGo_s rfl).trans rfl, fun _ _ _ => (aGo_s rfl).trans rfl, fun _ _ _ => (aGo_s rfl).trans rfl⟩
theorem e_22 {d : Nat} {x0 : Nat} {x1 : Nat} {H : aH} : aCall aMt (d + 1) 22 [.ref x0, .ref x1] H = aGo (aCall aMt d) none cd_22 3 0 [some (.ref x0), some (.ref x1)] [] H := (c_0 rfl ⟨rfl, Nat.le_of_ble_eq_true rfl, Nat.le_of_ble_eq_true rfl⟩).trans rfl
theorem s_23 {cl : Nat → List Value → aH → aRs} : (∀ ls st H, aGo cl none cd_23 3 0 ls st H = aRLoad (fun st => aGo cl none cd_23 3 1 ls st H) ls 0 st) ∧
  (∀ ls st H, aGo cl none cd_23 3 1 ls st H = aGet (fun st => aGo cl none cd_23 3 4 ls st H) 1 4 H st) ∧
  (∀ ls st H, aGo cl none cd_23 3 4 ls st H = aGo cl none cd_23 3 6 ls (.int 60 :: st) H) ∧
  (∀ ls st H, aGo cl none cd_23 3 6 ls st H = aIc (fun p st => aGo cl none cd_23 3 p ls st H) .ge 39 9 st) ∧
  (∀ ls st H, aGo cl none cd_23 3 9 ls st H = aRLoad (fun st => aGo cl none cd_23 3 10 ls st H) ls 0 st) ∧
  (∀ ls st H, aGo cl none cd_23 3 10 ls st H = aGet (fun st => aGo cl none cd_23 3 13 ls st H) 1 1 H st) ∧
  (∀ ls st H, aGo cl none cd_23 3 13 ls st H = aRLoad (fun st => aGo cl none cd_23 3 14 ls st H) ls 0 st) ∧
  (∀ ls st H, aGo cl none cd_23 3 14 ls st H = aGet (fun st => aGo cl none cd_23 3 17 ls st H) 1 4 H st) ∧
  (∀ ls st H, aGo cl none cd_23 3 17 ls st H = aILoad (fun st => aGo cl none cd_23 3 18 ls st H) ls 1 st) ∧
  (∀ ls st H, aGo cl none cd_23 3 18 ls st H = aIast (fun st H => aGo cl none cd_23 3 19 ls st H) H st) ∧
  (∀ ls st H, aGo cl none cd_23 3 19 ls st H = aRLoad (fun st => aGo cl none cd_23 3 20 ls st H) ls 0 st) ∧
  (∀ ls st H, aGo cl none cd_23 3 20 ls st H = aGet (fun st => aGo cl none cd_23 3 23 ls st H) 1 2 H st) ∧
  (∀ ls st H, aGo cl none cd_23 3 23 ls st H = aRLoad (fun st => aGo cl none cd_23 3 24 ls st H) ls 0 st) ∧
  (∀ ls st H, aGo cl none cd_23 3 24 ls st H = aGet (fun st => aGo cl none cd_23 3 27 ls st H) 1 4 H st) ∧
  (∀ ls st H, aGo cl none cd_23 3 27 ls st H = aILoad (fun st => aGo cl none cd_23 3 28 ls st H) ls 2 st) ∧
  (∀ ls st H, aGo cl none cd_23 3 28 ls st H = aIast (fun st H => aGo cl none cd_23 3 29 ls st H) H st) ∧
  (∀ ls st H, aGo cl none cd_23 3 29 ls st H = aRLoad (fun st => aGo cl none cd_23 3 30 ls st H) ls 0 st) ∧
  (∀ ls st H, aGo cl none cd_23 3 30 ls st H = aDup (fun st => aGo cl none cd_23 3 31 ls st H) st) ∧
  (∀ ls st H, aGo cl none cd_23 3 31 ls st H = aGet (fun st => aGo cl none cd_23 3 34 ls st H) 1 4 H st) ∧
  (∀ ls st H, aGo cl none cd_23 3 34 ls st H = aGo cl none cd_23 3 35 ls (.int 1 :: st) H) ∧
  (∀ ls st H, aGo cl none cd_23 3 35 ls st H = aBin (fun st => aGo cl none cd_23 3 36 ls st H) (fun x y => x + y) st) ∧
  (∀ ls st H, aGo cl none cd_23 3 36 ls st H = aPut (fun st H => aGo cl none cd_23 3 39 ls st H) 1 4 H st) ∧
  (∀ ls st H, aGo cl none cd_23 3 39 ls st H = aVret 3 st H) :=
  ⟨fun _ _ _ => (aGo_s rfl).trans rfl, fun _ _ _ => (aGo_s rfl).trans rfl, fun _ _ _ => (aGo_s rfl).trans rfl, fun _ _ _ => (aGo_s rfl).trans rfl, fun _ _ _ => (aGo_s rfl).trans rfl, fun _ _ _ => (aGo_s rfl).trans rfl, fun _ _ _ => (aGo_s rfl).trans rfl, fun _ _ _ => (aGo_s rfl).trans rfl, fun _ _ _ => (aGo_s rfl).trans rfl, fun _ _ _ => (aGo_s rfl).trans rfl, fun _ _ _ => (aGo_s rfl).trans rfl, fun _ _ _ => (aGo_s rfl).trans rfl, fun _ _ _ => (aGo_s rfl).trans rfl, fun _ _ _ => (aGo_s rfl).trans rfl, fun _ _ _ => (aGo_s rfl).trans rfl, fun _ _ _ => (aGo_s rfl).trans rfl, fun _ _ _ => (aGo_s rfl).trans rfl, fun _ _ _ => (aGo_s rfl).trans rfl, fun _ _ _ => (aGo_s rfl).trans rfl, fun _ _ _ => (aGo_s rfl).trans rfl, fun _ _ _ => (aGo_s rfl).trans rfl, fun _ _ _ => (aGo_s rfl).trans rfl, fun _ _ _ => (aGo_s rfl).trans rfl⟩
theorem e_23 {d : Nat} {x0 : Nat} {x1 : Int32} {x2 : Int32} {H : aH} : aCall aMt (d + 1) 23 [.ref x0, .int x1, .int x2] H = aGo (aCall aMt d) none cd_23 3 0 [some (.ref x0), some (.int x1), some (.int x2)] [] H := (c_0 rfl ⟨rfl, Nat.le_of_ble_eq_true rfl, Nat.le_of_ble_eq_true rfl⟩).trans rfl
theorem s_24 {cl : Nat → List Value → aH → aRs} : (∀ ls st H, aGo cl none cd_24 0 0 ls st H = aRLoad (fun st => aGo cl none cd_24 0 1 ls st H) ls 0 st) ∧
  (∀ ls st H, aGo cl none cd_24 0 1 ls st H = aCallV (fun st H => aGo cl none cd_24 0 4 ls st H) cl 21 0 1 H st) ∧
  (∀ ls st H, aGo cl none cd_24 0 4 ls st H = aIf (fun p st => aGo cl none cd_24 0 p ls st H) .eq 19 7 st) ∧
  (∀ ls st H, aGo cl none cd_24 0 7 ls st H = aRLoad (fun st => aGo cl none cd_24 0 8 ls st H) ls 0 st) ∧
  (∀ ls st H, aGo cl none cd_24 0 8 ls st H = aILoad (fun st => aGo cl none cd_24 0 9 ls st H) ls 1 st) ∧
  (∀ ls st H, aGo cl none cd_24 0 9 ls st H = aILoad (fun st => aGo cl none cd_24 0 10 ls st H) ls 2 st) ∧
  (∀ ls st H, aGo cl none cd_24 0 10 ls st H = aILoad (fun st => aGo cl none cd_24 0 11 ls st H) ls 3 st) ∧
  (∀ ls st H, aGo cl none cd_24 0 11 ls st H = aCallV (fun st H => aGo cl none cd_24 0 14 ls st H) cl 25 3 1 H st) ∧
  (∀ ls st H, aGo cl none cd_24 0 14 ls st H = aIStore (fun ls st => aGo cl none cd_24 0 16 ls st H) ls 4 st) ∧
  (∀ ls st H, aGo cl none cd_24 0 16 ls st H = aGo cl none cd_24 0 53 ls st H) ∧
  (∀ ls st H, aGo cl none cd_24 0 19 ls st H = aRLoad (fun st => aGo cl none cd_24 0 20 ls st H) ls 0 st) ∧
  (∀ ls st H, aGo cl none cd_24 0 20 ls st H = aGet (fun st => aGo cl none cd_24 0 23 ls st H) 1 0 H st) ∧
  (∀ ls st H, aGo cl none cd_24 0 23 ls st H = aIf (fun p st => aGo cl none cd_24 0 p ls st H) .ne 42 26 st) ∧
  (∀ ls st H, aGo cl none cd_24 0 26 ls st H = aGo cl none cd_24 0 28 ls (.int 20 :: st) H) ∧
  (∀ ls st H, aGo cl none cd_24 0 28 ls st H = aGo cl none cd_24 0 30 ls (.int 10 :: st) H) ∧
  (∀ ls st H, aGo cl none cd_24 0 30 ls st H = aILoad (fun st => aGo cl none cd_24 0 31 ls st H) ls 2 st) ∧
  (∀ ls st H, aGo cl none cd_24 0 31 ls st H = aBin (fun st => aGo cl none cd_24 0 32 ls st H) (fun x y => x * y) st) ∧
  (∀ ls st H, aGo cl none cd_24 0 32 ls st H = aBin (fun st => aGo cl none cd_24 0 33 ls st H) (fun x y => x + y) st) ∧
  (∀ ls st H, aGo cl none cd_24 0 33 ls st H = aGo cl none cd_24 0 34 ls (.int 3 :: st) H) ∧
  (∀ ls st H, aGo cl none cd_24 0 34 ls st H = aILoad (fun st => aGo cl none cd_24 0 35 ls st H) ls 3 st) ∧
  (∀ ls st H, aGo cl none cd_24 0 35 ls st H = aBin (fun st => aGo cl none cd_24 0 36 ls st H) (fun x y => x * y) st) ∧
  (∀ ls st H, aGo cl none cd_24 0 36 ls st H = aBin (fun st => aGo cl none cd_24 0 37 ls st H) (fun x y => x - y) st) ∧
  (∀ ls st H, aGo cl none cd_24 0 37 ls st H = aIStore (fun ls st => aGo cl none cd_24 0 39 ls st H) ls 4 st) ∧
  (∀ ls st H, aGo cl none cd_24 0 39 ls st H = aGo cl none cd_24 0 53 ls st H) ∧
  (∀ ls st H, aGo cl none cd_24 0 42 ls st H = aGo cl none cd_24 0 44 ls (.int 10 :: st) H) ∧
  (∀ ls st H, aGo cl none cd_24 0 44 ls st H = aILoad (fun st => aGo cl none cd_24 0 45 ls st H) ls 1 st) ∧
  (∀ ls st H, aGo cl none cd_24 0 45 ls st H = aBin (fun st => aGo cl none cd_24 0 46 ls st H) (fun x y => x * y) st) ∧
  (∀ ls st H, aGo cl none cd_24 0 46 ls st H = aGo cl none cd_24 0 48 ls (.int 20 :: st) H) ∧
  (∀ ls st H, aGo cl none cd_24 0 48 ls st H = aILoad (fun st => aGo cl none cd_24 0 49 ls st H) ls 2 st) ∧
  (∀ ls st H, aGo cl none cd_24 0 49 ls st H = aBin (fun st => aGo cl none cd_24 0 50 ls st H) (fun x y => x * y) st) ∧
  (∀ ls st H, aGo cl none cd_24 0 50 ls st H = aBin (fun st => aGo cl none cd_24 0 51 ls st H) (fun x y => x + y) st) ∧
  (∀ ls st H, aGo cl none cd_24 0 51 ls st H = aIStore (fun ls st => aGo cl none cd_24 0 53 ls st H) ls 4 st) ∧
  (∀ ls st H, aGo cl none cd_24 0 53 ls st H = aGo cl none cd_24 0 54 ls (.int 0 :: st) H) ∧
  (∀ ls st H, aGo cl none cd_24 0 54 ls st H = aGo cl none cd_24 0 56 ls (.int 99 :: st) H) ∧
  (∀ ls st H, aGo cl none cd_24 0 56 ls st H = aILoad (fun st => aGo cl none cd_24 0 58 ls st H) ls 4 st) ∧
  (∀ ls st H, aGo cl none cd_24 0 58 ls st H = aMin (fun st => aGo cl none cd_24 0 61 ls st H) st) ∧
  (∀ ls st H, aGo cl none cd_24 0 61 ls st H = aMax (fun st => aGo cl none cd_24 0 64 ls st H) st) ∧
  (∀ ls st H, aGo cl none cd_24 0 64 ls st H = aIret 0 st H) :=
  ⟨fun _ _ _ => (aGo_s rfl).trans rfl, fun _ _ _ => (aGo_s rfl).trans rfl, fun _ _ _ => (aGo_s rfl).trans rfl, fun _ _ _ => (aGo_s rfl).trans rfl, fun _ _ _ => (aGo_s rfl).trans rfl, fun _ _ _ => (aGo_s rfl).trans rfl, fun _ _ _ => (aGo_s rfl).trans rfl, fun _ _ _ => (aGo_s rfl).trans rfl, fun _ _ _ => (aGo_s rfl).trans rfl, fun _ _ _ => (aGo_s rfl).trans rfl, fun _ _ _ => (aGo_s rfl).trans rfl, fun _ _ _ => (aGo_s rfl).trans rfl, fun _ _ _ => (aGo_s rfl).trans rfl, fun _ _ _ => (aGo_s rfl).trans rfl, fun _ _ _ => (aGo_s rfl).trans rfl, fun _ _ _ => (aGo_s rfl).trans rfl, fun _ _ _ => (aGo_s rfl).trans rfl, fun _ _ _ => (aGo_s rfl).trans rfl, fun _ _ _ => (aGo_s rfl).trans rfl, fun _ _ _ => (aGo_s rfl).trans rfl, fun _ _ _ => (aGo_s rfl).trans rfl, fun _ _ _ => (aGo_s rfl).trans rfl, fun _ _ _ => (aGo_s rfl).trans rfl, fun _ _ _ => (aGo_s rfl).trans rfl, fun _ _ _ => (aGo_s rfl).trans rfl, fun _ _ _ => (aGo_s rfl).trans rfl, fun _ _ _ => (aGo_s rfl).trans rfl, fun _ _ _ => (aGo_s rfl).trans rfl, fun _ _ _ => (aGo_s rfl).trans rfl, fun _ _ _ => (aGo_s rfl).trans rfl, fun _ _ _ => (aGo_s rfl).trans rfl, fun _ _ _ => (aGo_s rfl).trans rfl, fun _ _ _ => (aGo_s rfl).trans rfl, fun _ _ _ => (aGo_s rfl).trans rfl, fun _ _ _ => (aGo_s rfl).trans rfl, fun _ _ _ => (aGo_s rfl).trans rfl, fun _ _ _ => (aGo_s rfl).trans rfl, fun _ _ _ => (aGo_s rfl).trans rfl⟩
theorem e_24 {d : Nat} {x0 : Nat} {x1 : Int32} {x2 : Int32} {x3 : Int32} {H : aH} : aCall aMt (d + 1) 24 [.ref x0, .int x1, .int x2, .int x3] H = aGo (aCall aMt d) none cd_24 0 0 [some (.ref x0), some (.int x1), some (.int x2), some (.int x3), none] [] H := (c_0 rfl ⟨rfl, Nat.le_of_ble_eq_true rfl, Nat.le_of_ble_eq_true rfl⟩).trans rfl
theorem s_25 {cl : Nat → List Value → aH → aRs} : (∀ ls st H, aGo cl none cd_25 0 0 ls st H = aGo cl none cd_25 0 1 ls (.int (-1) :: st) H) ∧
  (∀ ls st H, aGo cl none cd_25 0 1 ls st H = aIStore (fun ls st => aGo cl none cd_25 0 3 ls st H) ls 4 st) ∧
  (∀ ls st H, aGo cl none cd_25 0 3 ls st H = aGo cl none cd_25 0 4 ls (.int 0 :: st) H) ∧
  (∀ ls st H, aGo cl none cd_25 0 4 ls st H = aIStore (fun ls st => aGo cl none cd_25 0 6 ls st H) ls 5 st) ∧
  (∀ ls st H, aGo cl none cd_25 0 8 ls st H = aRLoad (fun st => aGo cl none cd_25 0 9 ls st H) ls 0 st) ∧
  (∀ ls st H, aGo cl none cd_25 0 9 ls st H = aGet (fun st => aGo cl none cd_25 0 12 ls st H) 1 4 H st) ∧
  (∀ ls st H, aGo cl none cd_25 0 12 ls st H = aIc (fun p st => aGo cl none cd_25 0 p ls st H) .ge 198 15 st) ∧
  (∀ ls st H, aGo cl none cd_25 0 15 ls st H = aRLoad (fun st => aGo cl none cd_25 0 16 ls st H) ls 0 st) ∧
  (∀ ls st H, aGo cl none cd_25 0 16 ls st H = aGet (fun st => aGo cl none cd_25 0 19 ls st H) 1 1 H st) ∧
  (∀ ls st H, aGo cl none cd_25 0 19 ls st H = aILoad (fun st => aGo cl none cd_25 0 21 ls st H) ls 5 st) ∧
  (∀ ls st H, aGo cl none cd_25 0 21 ls st H = aIald (fun st => aGo cl none cd_25 0 22 ls st H) none H st) ∧
  (∀ ls st H, aGo cl none cd_25 0 22 ls st H = aIStore (fun ls st => aGo cl none cd_25 0 24 ls st H) ls 6 st) ∧
  (∀ ls st H, aGo cl none cd_25 0 24 ls st H = aILoad (fun st => aGo cl none cd_25 0 26 ls st H) ls 6 st) ∧
  (∀ ls st H, aGo cl none cd_25 0 26 ls st H = aGo cl none cd_25 0 28 ls (.int 110 :: st) H) ∧
  (∀ ls st H, aGo cl none cd_25 0 28 ls st H = aIc (fun p st => aGo cl none cd_25 0 p ls st H) .eq 38 31 st) ∧
  (∀ ls st H, aGo cl none cd_25 0 31 ls st H = aILoad (fun st => aGo cl none cd_25 0 33 ls st H) ls 6 st) ∧
  (∀ ls st H, aGo cl none cd_25 0 33 ls st H = aGo cl none cd_25 0 35 ls (.int 118 :: st) H) ∧
  (∀ ls st H, aGo cl none cd_25 0 35 ls st H = aIc (fun p st => aGo cl none cd_25 0 p ls st H) .ne 97 38 st) ∧
  (∀ ls st H, aGo cl none cd_25 0 38 ls st H = aInc (fun ls => aGo cl none cd_25 0 41 ls st H) ls 4 1) ∧
  (∀ ls st H, aGo cl none cd_25 0 41 ls st H = aILoad (fun st => aGo cl none cd_25 0 43 ls st H) ls 4 st) ∧
  (∀ ls st H, aGo cl none cd_25 0 43 ls st H = aGo cl none cd_25 0 44 ls (.int 0 :: st) H) ∧
  (∀ ls st H, aGo cl none cd_25 0 44 ls st H = aRLoad (fun st => aGo cl none cd_25 0 45 ls st H) ls 0 st) ∧
  (∀ ls st H, aGo cl none cd_25 0 45 ls st H = aGet (fun st => aGo cl none cd_25 0 48 ls st H) 1 3 H st) ∧
  (∀ ls st H, aGo cl none cd_25 0 48 ls st H = aAlen (fun st => aGo cl none cd_25 0 49 ls st H) none H st) ∧
  (∀ ls st H, aGo cl none cd_25 0 49 ls st H = aGo cl none cd_25 0 50 ls (.int 1 :: st) H) ∧
  (∀ ls st H, aGo cl none cd_25 0 50 ls st H = aBin (fun st => aGo cl none cd_25 0 51 ls st H) (fun x y => x - y) st) ∧
  (∀ ls st H, aGo cl none cd_25 0 51 ls st H = aCallI (fun st H => aGo cl none cd_25 0 54 ls st H) cl 106 3 H st) ∧
  (∀ ls st H, aGo cl none cd_25 0 54 ls st H = aIf (fun p st => aGo cl none cd_25 0 p ls st H) .eq 192 57 st) ∧
  (∀ ls st H, aGo cl none cd_25 0 57 ls st H = aRLoad (fun st => aGo cl none cd_25 0 58 ls st H) ls 0 st) ∧
  (∀ ls st H, aGo cl none cd_25 0 58 ls st H = aGet (fun st => aGo cl none cd_25 0 61 ls st H) 1 3 H st) ∧
  (∀ ls st H, aGo cl none cd_25 0 61 ls st H = aILoad (fun st => aGo cl none cd_25 0 63 ls st H) ls 4 st) ∧
  (∀ ls st H, aGo cl none cd_25 0 63 ls st H = aILoad (fun st => aGo cl none cd_25 0 65 ls st H) ls 6 st) ∧
  (∀ ls st H, aGo cl none cd_25 0 65 ls st H = aGo cl none cd_25 0 67 ls (.int 110 :: st) H) ∧
  (∀ ls st H, aGo cl none cd_25 0 67 ls st H = aIc (fun p st => aGo cl none cd_25 0 p ls st H) .ne 80 70 st) ∧
  (∀ ls st H, aGo cl none cd_25 0 70 ls st H = aRLoad (fun st => aGo cl none cd_25 0 71 ls st H) ls 0 st) ∧
  (∀ ls st H, aGo cl none cd_25 0 71 ls st H = aGet (fun st => aGo cl none cd_25 0 74 ls st H) 1 2 H st) ∧
  (∀ ls st H, aGo cl none cd_25 0 74 ls st H = aILoad (fun st => aGo cl none cd_25 0 76 ls st H) ls 5 st) ∧
  (∀ ls st H, aGo cl none cd_25 0 76 ls st H = aIald (fun st => aGo cl none cd_25 0 77 ls st H) none H st) ∧
  (∀ ls st H, aGo cl none cd_25 0 77 ls st H = aGo cl none cd_25 0 93 ls st H) ∧
  (∀ ls st H, aGo cl none cd_25 0 80 ls st H = aRLoad (fun st => aGo cl none cd_25 0 81 ls st H) ls 0 st) ∧
  (∀ ls st H, aGo cl none cd_25 0 81 ls st H = aGet (fun st => aGo cl none cd_25 0 84 ls st H) 1 2 H st) ∧
  (∀ ls st H, aGo cl none cd_25 0 84 ls st H = aILoad (fun st => aGo cl none cd_25 0 86 ls st H) ls 5 st) ∧
  (∀ ls st H, aGo cl none cd_25 0 86 ls st H = aIald (fun st => aGo cl none cd_25 0 87 ls st H) none H st) ∧
  (∀ ls st H, aGo cl none cd_25 0 87 ls st H = aILoad (fun st => aGo cl none cd_25 0 88 ls st H) ls 1 st) ∧
  (∀ ls st H, aGo cl none cd_25 0 88 ls st H = aILoad (fun st => aGo cl none cd_25 0 89 ls st H) ls 2 st) ∧
  (∀ ls st H, aGo cl none cd_25 0 89 ls st H = aILoad (fun st => aGo cl none cd_25 0 90 ls st H) ls 3 st) ∧
  (∀ ls st H, aGo cl none cd_25 0 90 ls st H = aCallI (fun st H => aGo cl none cd_25 0 93 ls st H) cl 26 4 H st) ∧
  (∀ ls st H, aGo cl none cd_25 0 93 ls st H = aIast (fun st H => aGo cl none cd_25 0 94 ls st H) H st) ∧
  (∀ ls st H, aGo cl none cd_25 0 94 ls st H = aGo cl none cd_25 0 192 ls st H) ∧
  (∀ ls st H, aGo cl none cd_25 0 97 ls st H = aILoad (fun st => aGo cl none cd_25 0 99 ls st H) ls 6 st) ∧
  (∀ ls st H, aGo cl none cd_25 0 99 ls st H = aGo cl none cd_25 0 101 ls (.int 33 :: st) H) ∧
  (∀ ls st H, aGo cl none cd_25 0 101 ls st H = aIc (fun p st => aGo cl none cd_25 0 p ls st H) .ne 145 104 st) ∧
  (∀ ls st H, aGo cl none cd_25 0 104 ls st H = aILoad (fun st => aGo cl none cd_25 0 106 ls st H) ls 4 st) ∧
  (∀ ls st H, aGo cl none cd_25 0 106 ls st H = aGo cl none cd_25 0 107 ls (.int 0 :: st) H) ∧
  (∀ ls st H, aGo cl none cd_25 0 107 ls st H = aRLoad (fun st => aGo cl none cd_25 0 108 ls st H) ls 0 st) ∧
  (∀ ls st H, aGo cl none cd_25 0 108 ls st H = aGet (fun st => aGo cl none cd_25 0 111 ls st H) 1 3 H st) ∧
  (∀ ls st H, aGo cl none cd_25 0 111 ls st H = aAlen (fun st => aGo cl none cd_25 0 112 ls st H) none H st) ∧
  (∀ ls st H, aGo cl none cd_25 0 112 ls st H = aGo cl none cd_25 0 113 ls (.int 1 :: st) H) ∧
  (∀ ls st H, aGo cl none cd_25 0 113 ls st H = aBin (fun st => aGo cl none cd_25 0 114 ls st H) (fun x y => x - y) st) ∧
  (∀ ls st H, aGo cl none cd_25 0 114 ls st H = aCallI (fun st H => aGo cl none cd_25 0 117 ls st H) cl 106 3 H st) ∧
  (∀ ls st H, aGo cl none cd_25 0 117 ls st H = aIf (fun p st => aGo cl none cd_25 0 p ls st H) .eq 192 120 st) ∧
  (∀ ls st H, aGo cl none cd_25 0 120 ls st H = aRLoad (fun st => aGo cl none cd_25 0 121 ls st H) ls 0 st) ∧
  (∀ ls st H, aGo cl none cd_25 0 121 ls st H = aGet (fun st => aGo cl none cd_25 0 124 ls st H) 1 3 H st) ∧
  (∀ ls st H, aGo cl none cd_25 0 124 ls st H = aILoad (fun st => aGo cl none cd_25 0 126 ls st H) ls 4 st) ∧
  (∀ ls st H, aGo cl none cd_25 0 126 ls st H = aRLoad (fun st => aGo cl none cd_25 0 127 ls st H) ls 0 st) ∧
  (∀ ls st H, aGo cl none cd_25 0 127 ls st H = aGet (fun st => aGo cl none cd_25 0 130 ls st H) 1 3 H st) ∧
  (∀ ls st H, aGo cl none cd_25 0 130 ls st H = aILoad (fun st => aGo cl none cd_25 0 132 ls st H) ls 4 st) ∧
  (∀ ls st H, aGo cl none cd_25 0 132 ls st H = aIald (fun st => aGo cl none cd_25 0 133 ls st H) none H st) ∧
  (∀ ls st H, aGo cl none cd_25 0 133 ls st H = aIf (fun p st => aGo cl none cd_25 0 p ls st H) .ne 140 136 st) ∧
  (∀ ls st H, aGo cl none cd_25 0 136 ls st H = aGo cl none cd_25 0 137 ls (.int 1 :: st) H) ∧
  (∀ ls st H, aGo cl none cd_25 0 137 ls st H = aGo cl none cd_25 0 141 ls st H) ∧
  (∀ ls st H, aGo cl none cd_25 0 140 ls st H = aGo cl none cd_25 0 141 ls (.int 0 :: st) H) ∧
  (∀ ls st H, aGo cl none cd_25 0 141 ls st H = aIast (fun st H => aGo cl none cd_25 0 142 ls st H) H st) ∧
  (∀ ls st H, aGo cl none cd_25 0 142 ls st H = aGo cl none cd_25 0 192 ls st H) ∧
  (∀ ls st H, aGo cl none cd_25 0 145 ls st H = aInc (fun ls => aGo cl none cd_25 0 148 ls st H) ls 4 (-1)) ∧
  (∀ ls st H, aGo cl none cd_25 0 148 ls st H = aILoad (fun st => aGo cl none cd_25 0 150 ls st H) ls 4 st) ∧
  (∀ ls st H, aGo cl none cd_25 0 150 ls st H = aGo cl none cd_25 0 151 ls (.int 0 :: st) H) ∧
  (∀ ls st H, aGo cl none cd_25 0 151 ls st H = aRLoad (fun st => aGo cl none cd_25 0 152 ls st H) ls 0 st) ∧
  (∀ ls st H, aGo cl none cd_25 0 152 ls st H = aGet (fun st => aGo cl none cd_25 0 155 ls st H) 1 3 H st) ∧
  (∀ ls st H, aGo cl none cd_25 0 155 ls st H = aAlen (fun st => aGo cl none cd_25 0 156 ls st H) none H st) ∧
  (∀ ls st H, aGo cl none cd_25 0 156 ls st H = aGo cl none cd_25 0 157 ls (.int 2 :: st) H) ∧
  (∀ ls st H, aGo cl none cd_25 0 157 ls st H = aBin (fun st => aGo cl none cd_25 0 158 ls st H) (fun x y => x - y) st) ∧
  (∀ ls st H, aGo cl none cd_25 0 158 ls st H = aCallI (fun st H => aGo cl none cd_25 0 161 ls st H) cl 106 3 H st) ∧
  (∀ ls st H, aGo cl none cd_25 0 161 ls st H = aIf (fun p st => aGo cl none cd_25 0 p ls st H) .eq 192 164 st) ∧
  (∀ ls st H, aGo cl none cd_25 0 164 ls st H = aRLoad (fun st => aGo cl none cd_25 0 165 ls st H) ls 0 st) ∧
  (∀ ls st H, aGo cl none cd_25 0 165 ls st H = aGet (fun st => aGo cl none cd_25 0 168 ls st H) 1 3 H st) ∧
  (∀ ls st H, aGo cl none cd_25 0 168 ls st H = aILoad (fun st => aGo cl none cd_25 0 170 ls st H) ls 4 st) ∧
  (∀ ls st H, aGo cl none cd_25 0 170 ls st H = aILoad (fun st => aGo cl none cd_25 0 172 ls st H) ls 6 st) ∧
  (∀ ls st H, aGo cl none cd_25 0 172 ls st H = aRLoad (fun st => aGo cl none cd_25 0 173 ls st H) ls 0 st) ∧
  (∀ ls st H, aGo cl none cd_25 0 173 ls st H = aGet (fun st => aGo cl none cd_25 0 176 ls st H) 1 3 H st) ∧
  (∀ ls st H, aGo cl none cd_25 0 176 ls st H = aILoad (fun st => aGo cl none cd_25 0 178 ls st H) ls 4 st) ∧
  (∀ ls st H, aGo cl none cd_25 0 178 ls st H = aIald (fun st => aGo cl none cd_25 0 179 ls st H) none H st) ∧
  (∀ ls st H, aGo cl none cd_25 0 179 ls st H = aRLoad (fun st => aGo cl none cd_25 0 180 ls st H) ls 0 st) ∧
  (∀ ls st H, aGo cl none cd_25 0 180 ls st H = aGet (fun st => aGo cl none cd_25 0 183 ls st H) 1 3 H st) ∧
  (∀ ls st H, aGo cl none cd_25 0 183 ls st H = aILoad (fun st => aGo cl none cd_25 0 185 ls st H) ls 4 st) ∧
  (∀ ls st H, aGo cl none cd_25 0 185 ls st H = aGo cl none cd_25 0 186 ls (.int 1 :: st) H) ∧
  (∀ ls st H, aGo cl none cd_25 0 186 ls st H = aBin (fun st => aGo cl none cd_25 0 187 ls st H) (fun x y => x + y) st) ∧
  (∀ ls st H, aGo cl none cd_25 0 187 ls st H = aIald (fun st => aGo cl none cd_25 0 188 ls st H) none H st) ∧
  (∀ ls st H, aGo cl none cd_25 0 188 ls st H = aCallI (fun st H => aGo cl none cd_25 0 191 ls st H) cl 27 3 H st) ∧
  (∀ ls st H, aGo cl none cd_25 0 191 ls st H = aIast (fun st H => aGo cl none cd_25 0 192 ls st H) H st) ∧
  (∀ ls st H, aGo cl none cd_25 0 192 ls st H = aInc (fun ls => aGo cl none cd_25 0 195 ls st H) ls 5 1) ∧
  (∀ ls st H, aGo cl none cd_25 0 195 ls st H = aGo cl none cd_25 0 6 ls st H) ∧
  (∀ ls st H, aGo cl none cd_25 0 198 ls st H = aRLoad (fun st => aGo cl none cd_25 0 199 ls st H) ls 0 st) ∧
  (∀ ls st H, aGo cl none cd_25 0 199 ls st H = aGet (fun st => aGo cl none cd_25 0 202 ls st H) 1 3 H st) ∧
  (∀ ls st H, aGo cl none cd_25 0 202 ls st H = aGo cl none cd_25 0 203 ls (.int 0 :: st) H) ∧
  (∀ ls st H, aGo cl none cd_25 0 203 ls st H = aIald (fun st => aGo cl none cd_25 0 204 ls st H) none H st) ∧
  (∀ ls st H, aGo cl none cd_25 0 204 ls st H = aIret 0 st H) :=
  ⟨fun _ _ _ => (aGo_s rfl).trans rfl, fun _ _ _ => (aGo_s rfl).trans rfl, fun _ _ _ => (aGo_s rfl).trans rfl, fun _ _ _ => (aGo_s rfl).trans rfl, fun _ _ _ => (aGo_s rfl).trans rfl, fun _ _ _ => (aGo_s rfl).trans rfl, fun _ _ _ => (aGo_s rfl).trans rfl, fun _ _ _ => (aGo_s rfl).trans rfl, fun _ _ _ => (aGo_s rfl).trans rfl, fun _ _ _ => (aGo_s rfl).trans rfl, fun _ _ _ => (aGo_s rfl).trans rfl, fun _ _ _ => (aGo_s rfl).trans rfl, fun _ _ _ => (aGo_s rfl).trans rfl, fun _ _ _ => (aGo_s rfl).trans rfl, fun _ _ _ => (aGo_s rfl).trans rfl, fun _ _ _ => (aGo_s rfl).trans rfl, fun _ _ _ => (aGo_s rfl).trans rfl, fun _ _ _ => (aGo_s rfl).trans rfl, fun _ _ _ => (aGo_s rfl).trans rfl, fun _ _ _ => (aGo_s rfl).trans rfl, fun _ _ _ => (aGo_s rfl).trans rfl, fun _ _ _ => (aGo_s rfl).trans rfl, fun _ _ _ => (aGo_s rfl).trans rfl, fun _ _ _ => (aGo_s rfl).trans rfl, fun _ _ _ => (aGo_s rfl).trans rfl, fun _ _ _ => (aGo_s rfl).trans rfl, fun _ _ _ => (aGo_s rfl).trans rfl, fun _ _ _ => (aGo_s rfl).trans rfl, fun _ _ _ => (aGo_s rfl).trans rfl, fun _ _ _ => (aGo_s rfl).trans rfl, fun _ _ _ => (aGo_s rfl).trans rfl, fun _ _ _ => (aGo_s rfl).trans rfl, fun _ _ _ => (aGo_s rfl).trans rfl, fun _ _ _ => (aGo_s rfl).trans rfl, fun _ _ _ => (aGo_s rfl).trans rfl, fun _ _ _ => (aGo_s rfl).trans rfl, fun _ _ _ => (aGo_s rfl).trans rfl, fun _ _ _ => (aGo_s rfl).trans rfl, fun _ _ _ => (aGo_s rfl).trans rfl, fun _ _ _ => (aGo_s rfl).trans rfl, fun _ _ _ => (aGo_s rfl).trans rfl, fun _ _ _ => (aGo_s rfl).trans rfl, fun _ _ _ => (aGo_s rfl).trans rfl, fun _ _ _ => (aGo_s rfl).trans rfl, fun _ _ _ => (aGo_s rfl).trans rfl, fun _ _ _ => (aGo_s rfl).trans rfl, fun _ _ _ => (aGo_s rfl).trans rfl, fun _ _ _ => (aGo_s rfl).trans rfl, fun _ _ _ => (aGo_s rfl).trans rfl, fun _ _ _ => (aGo_s rfl).trans rfl, fun _ _ _ => (aGo_s rfl).trans rfl, fun _ _ _ => (aGo_s rfl).trans rfl, fun _ _ _ => (aGo_s rfl).trans rfl, fun _ _ _ => (aGo_s rfl).trans rfl, fun _ _ _ => (aGo_s rfl).trans rfl, fun _ _ _ => (aGo_s rfl).trans rfl, fun _ _ _ => (aGo_s rfl).trans rfl, fun _ _ _ => (aGo_s rfl).trans rfl, fun _ _ _ => (aGo_s rfl).trans rfl, fun _ _ _ => (aGo_s rfl).trans rfl, fun _ _ _ => (aGo_s rfl).trans rfl, fun _ _ _ => (aGo_s rfl).trans rfl, fun _ _ _ => (aGo_s rfl).trans rfl, fun _ _ _ => (aGo_s rfl).trans rfl, fun _ _ _ => (aGo_s rfl).trans rfl, fun _ _ _ => (aGo_s rfl).trans rfl, fun _ _ _ => (aGo_s rfl).trans rfl, fun _ _ _ => (aGo_s rfl).trans rfl, fun _ _ _ => (aGo_s rfl).trans rfl, fun _ _ _ => (aGo_s rfl).trans rfl, fun _ _ _ => (aGo_s rfl).trans rfl, fun _ _ _ => (aGo_s rfl).trans rfl, fun _ _ _ => (aGo_s rfl).trans rfl, fun _ _ _ => (aGo_s rfl).trans rfl, fun _ _ _ => (aGo_s rfl).trans rfl, fun _ _ _ => (aGo_s rfl).trans rfl, fun _ _ _ => (aGo_s rfl).trans rfl, fun _ _ _ => (aGo_s rfl).trans rfl, fun _ _ _ => (aGo_s rfl).trans rfl, fun _ _ _ => (aGo_s rfl).trans rfl, fun _ _ _ => (aGo_s rfl).trans rfl, fun _ _ _ => (aGo_s rfl).trans rfl, fun _ _ _ => (aGo_s rfl).trans rfl, fun _ _ _ => (aGo_s rfl).trans rfl, fun _ _ _ => (aGo_s rfl).trans rfl, fun _ _ _ => (aGo_s rfl).trans rfl, fun _ _ _ => (aGo_s rfl).trans rfl, fun _ _ _ => (aGo_s rfl).trans rfl, fun _ _ _ => (aGo_s rfl).trans rfl, fun _ _ _ => (aGo_s rfl).trans rfl, fun _ _ _ => (aGo_s rfl).trans rfl, fun _ _ _ => (aGo_s rfl).trans rfl, fun _ _ _ => (aGo_s rfl).trans rfl, fun _ _ _ => (aGo_s rfl).trans rfl, fun _ _ _ => (aGo_s rfl).trans rfl, fun _ _ _ => (aGo_s rfl).trans rfl, fun _ _ _ => (aGo_s rfl).trans rfl, fun _ _ _ => (aGo_s rfl).trans rfl, fun _ _ _ => (aGo_s rfl).trans rfl, fun _ _ _ => (aGo_s rfl).trans rfl, fun _ _ _ => (aGo_s rfl).trans rfl, fun _ _ _ => (aGo_s rfl).trans rfl, fun _ _ _ => (aGo_s rfl).trans rfl, fun _ _ _ => (aGo_s rfl).trans rfl, fun _ _ _ => (aGo_s rfl).trans rfl, fun _ _ _ => (aGo_s rfl).trans rfl, fun _ _ _ => (aGo_s rfl).trans rfl⟩
theorem s_25_6 {cl : Nat → List Value → aH → aRs} : ∀ ls st H, aGo cl none cd_25 0 6 ls st H = aILoad (fun st => aGo cl none cd_25 0 8 ls st H) ls 5 st := fun _ _ _ => (aGo_s rfl).trans rfl
theorem e_25 {d : Nat} {x0 : Nat} {x1 : Int32} {x2 : Int32} {x3 : Int32} {H : aH} : aCall aMt (d + 1) 25 [.ref x0, .int x1, .int x2, .int x3] H = aGo (aCall aMt d) none cd_25 0 0 [some (.ref x0), some (.int x1), some (.int x2), some (.int x3), none, none, none] [] H := (c_0 rfl ⟨rfl, Nat.le_of_ble_eq_true rfl, Nat.le_of_ble_eq_true rfl⟩).trans rfl
theorem s_26 {cl : Nat → List Value → aH → aRs} : (∀ ls st H, aGo cl none cd_26 0 0 ls st H = aILoad (fun st => aGo cl none cd_26 0 1 ls st H) ls 0 st) ∧
  (∀ ls st H, aGo cl none cd_26 0 1 ls st H = aIf (fun p st => aGo cl none cd_26 0 p ls st H) .ne 8 4 st) ∧
  (∀ ls st H, aGo cl none cd_26 0 4 ls st H = aILoad (fun st => aGo cl none cd_26 0 5 ls st H) ls 1 st) ∧
  (∀ ls st H, aGo cl none cd_26 0 5 ls st H = aGo cl none cd_26 0 18 ls st H) ∧
  (∀ ls st H, aGo cl none cd_26 0 8 ls st H = aILoad (fun st => aGo cl none cd_26 0 9 ls st H) ls 0 st) ∧
  (∀ ls st H, aGo cl none cd_26 0 9 ls st H = aGo cl none cd_26 0 10 ls (.int 1 :: st) H) ∧
  (∀ ls st H, aGo cl none cd_26 0 10 ls st H = aIc (fun p st => aGo cl none cd_26 0 p ls st H) .ne 17 13 st) ∧
  (∀ ls st H, aGo cl none cd_26 0 13 ls st H = aILoad (fun st => aGo cl none cd_26 0 14 ls st H) ls 2 st) ∧
  (∀ ls st H, aGo cl none cd_26 0 14 ls st H = aGo cl none cd_26 0 18 ls st H) ∧
  (∀ ls st H, aGo cl none cd_26 0 17 ls st H = aILoad (fun st => aGo cl none cd_26 0 18 ls st H) ls 3 st) ∧
  (∀ ls st H, aGo cl none cd_26 0 18 ls st H = aIret 0 st H) :=
  ⟨fun _ _ _ => (aGo_s rfl).trans rfl, fun _ _ _ => (aGo_s rfl).trans rfl, fun _ _ _ => (aGo_s rfl).trans rfl, fun _ _ _ => (aGo_s rfl).trans rfl, fun _ _ _ => (aGo_s rfl).trans rfl, fun _ _ _ => (aGo_s rfl).trans rfl, fun _ _ _ => (aGo_s rfl).trans rfl, fun _ _ _ => (aGo_s rfl).trans rfl, fun _ _ _ => (aGo_s rfl).trans rfl, fun _ _ _ => (aGo_s rfl).trans rfl, fun _ _ _ => (aGo_s rfl).trans rfl⟩
theorem e_26 {d : Nat} {x0 : Int32} {x1 : Int32} {x2 : Int32} {x3 : Int32} {H : aH} : aCall aMt (d + 1) 26 [.int x0, .int x1, .int x2, .int x3] H = aGo (aCall aMt d) none cd_26 0 0 [some (.int x0), some (.int x1), some (.int x2), some (.int x3)] [] H := (c_0 rfl ⟨rfl, Nat.le_of_ble_eq_true rfl, Nat.le_of_ble_eq_true rfl⟩).trans rfl
theorem s_27 {cl : Nat → List Value → aH → aRs} : (∀ ls st H, aGo cl none cd_27 0 0 ls st H = aILoad (fun st => aGo cl none cd_27 0 1 ls st H) ls 0 st) ∧
  (∀ ls st H, aGo cl none cd_27 0 1 ls st H = aSwS (fun p st => aGo cl none cd_27 0 p ls st H) [(38, 98), (42, 153), (43, 145), (45, 149), (47, 157), (60, 112), (61, 123), (62, 134), (124, 84)] 169 st) ∧
  (∀ ls st H, aGo cl none cd_27 0 84 ls st H = aILoad (fun st => aGo cl none cd_27 0 85 ls st H) ls 1 st) ∧
  (∀ ls st H, aGo cl none cd_27 0 85 ls st H = aIf (fun p st => aGo cl none cd_27 0 p ls st H) .ne 92 88 st) ∧
  (∀ ls st H, aGo cl none cd_27 0 88 ls st H = aILoad (fun st => aGo cl none cd_27 0 89 ls st H) ls 2 st) ∧
  (∀ ls st H, aGo cl none cd_27 0 89 ls st H = aIf (fun p st => aGo cl none cd_27 0 p ls st H) .eq 96 92 st) ∧
  (∀ ls st H, aGo cl none cd_27 0 92 ls st H = aGo cl none cd_27 0 93 ls (.int 1 :: st) H) ∧
  (∀ ls st H, aGo cl none cd_27 0 93 ls st H = aGo cl none cd_27 0 97 ls st H) ∧
  (∀ ls st H, aGo cl none cd_27 0 96 ls st H = aGo cl none cd_27 0 97 ls (.int 0 :: st) H) ∧
  (∀ ls st H, aGo cl none cd_27 0 97 ls st H = aIret 0 st H) ∧
  (∀ ls st H, aGo cl none cd_27 0 98 ls st H = aILoad (fun st => aGo cl none cd_27 0 99 ls st H) ls 1 st) ∧
  (∀ ls st H, aGo cl none cd_27 0 99 ls st H = aIf (fun p st => aGo cl none cd_27 0 p ls st H) .eq 110 102 st) ∧
  (∀ ls st H, aGo cl none cd_27 0 102 ls st H = aILoad (fun st => aGo cl none cd_27 0 103 ls st H) ls 2 st) ∧
  (∀ ls st H, aGo cl none cd_27 0 103 ls st H = aIf (fun p st => aGo cl none cd_27 0 p ls st H) .eq 110 106 st) ∧
  (∀ ls st H, aGo cl none cd_27 0 106 ls st H = aGo cl none cd_27 0 107 ls (.int 1 :: st) H) ∧
  (∀ ls st H, aGo cl none cd_27 0 107 ls st H = aGo cl none cd_27 0 111 ls st H) ∧
  (∀ ls st H, aGo cl none cd_27 0 110 ls st H = aGo cl none cd_27 0 111 ls (.int 0 :: st) H) ∧
  (∀ ls st H, aGo cl none cd_27 0 111 ls st H = aIret 0 st H) ∧
  (∀ ls st H, aGo cl none cd_27 0 112 ls st H = aILoad (fun st => aGo cl none cd_27 0 113 ls st H) ls 1 st) ∧
  (∀ ls st H, aGo cl none cd_27 0 113 ls st H = aILoad (fun st => aGo cl none cd_27 0 114 ls st H) ls 2 st) ∧
  (∀ ls st H, aGo cl none cd_27 0 114 ls st H = aIc (fun p st => aGo cl none cd_27 0 p ls st H) .ge 121 117 st) ∧
  (∀ ls st H, aGo cl none cd_27 0 117 ls st H = aGo cl none cd_27 0 118 ls (.int 1 :: st) H) ∧
  (∀ ls st H, aGo cl none cd_27 0 118 ls st H = aGo cl none cd_27 0 122 ls st H) ∧
  (∀ ls st H, aGo cl none cd_27 0 121 ls st H = aGo cl none cd_27 0 122 ls (.int 0 :: st) H) ∧
  (∀ ls st H, aGo cl none cd_27 0 122 ls st H = aIret 0 st H) ∧
  (∀ ls st H, aGo cl none cd_27 0 123 ls st H = aILoad (fun st => aGo cl none cd_27 0 124 ls st H) ls 1 st) ∧
  (∀ ls st H, aGo cl none cd_27 0 124 ls st H = aILoad (fun st => aGo cl none cd_27 0 125 ls st H) ls 2 st) ∧
  (∀ ls st H, aGo cl none cd_27 0 125 ls st H = aIc (fun p st => aGo cl none cd_27 0 p ls st H) .ne 132 128 st) ∧
  (∀ ls st H, aGo cl none cd_27 0 128 ls st H = aGo cl none cd_27 0 129 ls (.int 1 :: st) H) ∧
  (∀ ls st H, aGo cl none cd_27 0 129 ls st H = aGo cl none cd_27 0 133 ls st H) ∧
  (∀ ls st H, aGo cl none cd_27 0 132 ls st H = aGo cl none cd_27 0 133 ls (.int 0 :: st) H) ∧
  (∀ ls st H, aGo cl none cd_27 0 133 ls st H = aIret 0 st H) ∧
  (∀ ls st H, aGo cl none cd_27 0 134 ls st H = aILoad (fun st => aGo cl none cd_27 0 135 ls st H) ls 1 st) ∧
  (∀ ls st H, aGo cl none cd_27 0 135 ls st H = aILoad (fun st => aGo cl none cd_27 0 136 ls st H) ls 2 st) ∧
  (∀ ls st H, aGo cl none cd_27 0 136 ls st H = aIc (fun p st => aGo cl none cd_27 0 p ls st H) .le 143 139 st) ∧
  (∀ ls st H, aGo cl none cd_27 0 139 ls st H = aGo cl none cd_27 0 140 ls (.int 1 :: st) H) ∧
  (∀ ls st H, aGo cl none cd_27 0 140 ls st H = aGo cl none cd_27 0 144 ls st H) ∧
  (∀ ls st H, aGo cl none cd_27 0 143 ls st H = aGo cl none cd_27 0 144 ls (.int 0 :: st) H) ∧
  (∀ ls st H, aGo cl none cd_27 0 144 ls st H = aIret 0 st H) ∧
  (∀ ls st H, aGo cl none cd_27 0 145 ls st H = aILoad (fun st => aGo cl none cd_27 0 146 ls st H) ls 1 st) ∧
  (∀ ls st H, aGo cl none cd_27 0 146 ls st H = aILoad (fun st => aGo cl none cd_27 0 147 ls st H) ls 2 st) ∧
  (∀ ls st H, aGo cl none cd_27 0 147 ls st H = aBin (fun st => aGo cl none cd_27 0 148 ls st H) (fun x y => x + y) st) ∧
  (∀ ls st H, aGo cl none cd_27 0 148 ls st H = aIret 0 st H) ∧
  (∀ ls st H, aGo cl none cd_27 0 149 ls st H = aILoad (fun st => aGo cl none cd_27 0 150 ls st H) ls 1 st) ∧
  (∀ ls st H, aGo cl none cd_27 0 150 ls st H = aILoad (fun st => aGo cl none cd_27 0 151 ls st H) ls 2 st) ∧
  (∀ ls st H, aGo cl none cd_27 0 151 ls st H = aBin (fun st => aGo cl none cd_27 0 152 ls st H) (fun x y => x - y) st) ∧
  (∀ ls st H, aGo cl none cd_27 0 152 ls st H = aIret 0 st H) ∧
  (∀ ls st H, aGo cl none cd_27 0 153 ls st H = aILoad (fun st => aGo cl none cd_27 0 154 ls st H) ls 1 st) ∧
  (∀ ls st H, aGo cl none cd_27 0 154 ls st H = aILoad (fun st => aGo cl none cd_27 0 155 ls st H) ls 2 st) ∧
  (∀ ls st H, aGo cl none cd_27 0 155 ls st H = aBin (fun st => aGo cl none cd_27 0 156 ls st H) (fun x y => x * y) st) ∧
  (∀ ls st H, aGo cl none cd_27 0 156 ls st H = aIret 0 st H) ∧
  (∀ ls st H, aGo cl none cd_27 0 157 ls st H = aILoad (fun st => aGo cl none cd_27 0 158 ls st H) ls 2 st) ∧
  (∀ ls st H, aGo cl none cd_27 0 158 ls st H = aIf (fun p st => aGo cl none cd_27 0 p ls st H) .ne 165 161 st) ∧
  (∀ ls st H, aGo cl none cd_27 0 161 ls st H = aGo cl none cd_27 0 162 ls (.int 0 :: st) H) ∧
  (∀ ls st H, aGo cl none cd_27 0 162 ls st H = aGo cl none cd_27 0 168 ls st H) ∧
  (∀ ls st H, aGo cl none cd_27 0 165 ls st H = aILoad (fun st => aGo cl none cd_27 0 166 ls st H) ls 1 st) ∧
  (∀ ls st H, aGo cl none cd_27 0 166 ls st H = aILoad (fun st => aGo cl none cd_27 0 167 ls st H) ls 2 st) ∧
  (∀ ls st H, aGo cl none cd_27 0 167 ls st H = aDiv (fun st => aGo cl none cd_27 0 168 ls st H) st) ∧
  (∀ ls st H, aGo cl none cd_27 0 168 ls st H = aIret 0 st H) ∧
  (∀ ls st H, aGo cl none cd_27 0 169 ls st H = aILoad (fun st => aGo cl none cd_27 0 170 ls st H) ls 2 st) ∧
  (∀ ls st H, aGo cl none cd_27 0 170 ls st H = aIf (fun p st => aGo cl none cd_27 0 p ls st H) .ne 177 173 st) ∧
  (∀ ls st H, aGo cl none cd_27 0 173 ls st H = aGo cl none cd_27 0 174 ls (.int 0 :: st) H) ∧
  (∀ ls st H, aGo cl none cd_27 0 174 ls st H = aGo cl none cd_27 0 180 ls st H) ∧
  (∀ ls st H, aGo cl none cd_27 0 177 ls st H = aILoad (fun st => aGo cl none cd_27 0 178 ls st H) ls 1 st) ∧
  (∀ ls st H, aGo cl none cd_27 0 178 ls st H = aILoad (fun st => aGo cl none cd_27 0 179 ls st H) ls 2 st) ∧
  (∀ ls st H, aGo cl none cd_27 0 179 ls st H = aRem (fun st => aGo cl none cd_27 0 180 ls st H) st) ∧
  (∀ ls st H, aGo cl none cd_27 0 180 ls st H = aIret 0 st H) :=
  ⟨fun _ _ _ => (aGo_s rfl).trans rfl, fun _ _ _ => (aGo_s rfl).trans rfl, fun _ _ _ => (aGo_s rfl).trans rfl, fun _ _ _ => (aGo_s rfl).trans rfl, fun _ _ _ => (aGo_s rfl).trans rfl, fun _ _ _ => (aGo_s rfl).trans rfl, fun _ _ _ => (aGo_s rfl).trans rfl, fun _ _ _ => (aGo_s rfl).trans rfl, fun _ _ _ => (aGo_s rfl).trans rfl, fun _ _ _ => (aGo_s rfl).trans rfl, fun _ _ _ => (aGo_s rfl).trans rfl, fun _ _ _ => (aGo_s rfl).trans rfl, fun _ _ _ => (aGo_s rfl).trans rfl, fun _ _ _ => (aGo_s rfl).trans rfl, fun _ _ _ => (aGo_s rfl).trans rfl, fun _ _ _ => (aGo_s rfl).trans rfl, fun _ _ _ => (aGo_s rfl).trans rfl, fun _ _ _ => (aGo_s rfl).trans rfl, fun _ _ _ => (aGo_s rfl).trans rfl, fun _ _ _ => (aGo_s rfl).trans rfl, fun _ _ _ => (aGo_s rfl).trans rfl, fun _ _ _ => (aGo_s rfl).trans rfl, fun _ _ _ => (aGo_s rfl).trans rfl, fun _ _ _ => (aGo_s rfl).trans rfl, fun _ _ _ => (aGo_s rfl).trans rfl, fun _ _ _ => (aGo_s rfl).trans rfl, fun _ _ _ => (aGo_s rfl).trans rfl, fun _ _ _ => (aGo_s rfl).trans rfl, fun _ _ _ => (aGo_s rfl).trans rfl, fun _ _ _ => (aGo_s rfl).trans rfl, fun _ _ _ => (aGo_s rfl).trans rfl, fun _ _ _ => (aGo_s rfl).trans rfl, fun _ _ _ => (aGo_s rfl).trans rfl, fun _ _ _ => (aGo_s rfl).trans rfl, fun _ _ _ => (aGo_s rfl).trans rfl, fun _ _ _ => (aGo_s rfl).trans rfl, fun _ _ _ => (aGo_s rfl).trans rfl, fun _ _ _ => (aGo_s rfl).trans rfl, fun _ _ _ => (aGo_s rfl).trans rfl, fun _ _ _ => (aGo_s rfl).trans rfl, fun _ _ _ => (aGo_s rfl).trans rfl, fun _ _ _ => (aGo_s rfl).trans rfl, fun _ _ _ => (aGo_s rfl).trans rfl, fun _ _ _ => (aGo_s rfl).trans rfl, fun _ _ _ => (aGo_s rfl).trans rfl, fun _ _ _ => (aGo_s rfl).trans rfl, fun _ _ _ => (aGo_s rfl).trans rfl, fun _ _ _ => (aGo_s rfl).trans rfl, fun _ _ _ => (aGo_s rfl).trans rfl, fun _ _ _ => (aGo_s rfl).trans rfl, fun _ _ _ => (aGo_s rfl).trans rfl, fun _ _ _ => (aGo_s rfl).trans rfl, fun _ _ _ => (aGo_s rfl).trans rfl, fun _ _ _ => (aGo_s rfl).trans rfl, fun _ _ _ => (aGo_s rfl).trans rfl, fun _ _ _ => (aGo_s rfl).trans rfl, fun _ _ _ => (aGo_s rfl).trans rfl, fun _ _ _ => (aGo_s rfl).trans rfl, fun _ _ _ => (aGo_s rfl).trans rfl, fun _ _ _ => (aGo_s rfl).trans rfl, fun _ _ _ => (aGo_s rfl).trans rfl, fun _ _ _ => (aGo_s rfl).trans rfl, fun _ _ _ => (aGo_s rfl).trans rfl, fun _ _ _ => (aGo_s rfl).trans rfl, fun _ _ _ => (aGo_s rfl).trans rfl, fun _ _ _ => (aGo_s rfl).trans rfl, fun _ _ _ => (aGo_s rfl).trans rfl⟩
theorem e_27 {d : Nat} {x0 : Int32} {x1 : Int32} {x2 : Int32} {H : aH} : aCall aMt (d + 1) 27 [.int x0, .int x1, .int x2] H = aGo (aCall aMt d) none cd_27 0 0 [some (.int x0), some (.int x1), some (.int x2)] [] H := (c_0 rfl ⟨rfl, Nat.le_of_ble_eq_true rfl, Nat.le_of_ble_eq_true rfl⟩).trans rfl
theorem s_29 {cl : Nat → List Value → aH → aRs} : (∀ ls st H, aGo cl none cd_29 3 0 ls st H = aRLoad (fun st => aGo cl none cd_29 3 1 ls st H) ls 0 st) ∧
  (∀ ls st H, aGo cl none cd_29 3 1 ls st H = aILoad (fun st => aGo cl none cd_29 3 2 ls st H) ls 1 st) ∧
  (∀ ls st H, aGo cl none cd_29 3 2 ls st H = aCallV (fun st H => aGo cl none cd_29 3 5 ls st H) cl 30 1 2 H st) ∧
  (∀ ls st H, aGo cl none cd_29 3 5 ls st H = aRLoad (fun st => aGo cl none cd_29 3 6 ls st H) ls 0 st) ∧
  (∀ ls st H, aGo cl none cd_29 3 6 ls st H = aGo cl none cd_29 3 8 ls (.int 10 :: st) H) ∧
  (∀ ls st H, aGo cl none cd_29 3 8 ls st H = aPut (fun st H => aGo cl none cd_29 3 11 ls st H) 2 3 H st) ∧
  (∀ ls st H, aGo cl none cd_29 3 11 ls st H = aRLoad (fun st => aGo cl none cd_29 3 12 ls st H) ls 0 st) ∧
  (∀ ls st H, aGo cl none cd_29 3 12 ls st H = aGo cl none cd_29 3 13 ls (.int 0 :: st) H) ∧
  (∀ ls st H, aGo cl none cd_29 3 13 ls st H = aPut (fun st H => aGo cl none cd_29 3 16 ls st H) 2 4 H st) ∧
  (∀ ls st H, aGo cl none cd_29 3 16 ls st H = aRLoad (fun st => aGo cl none cd_29 3 17 ls st H) ls 0 st) ∧
  (∀ ls st H, aGo cl none cd_29 3 17 ls st H = aGo cl none cd_29 3 18 ls (.int (-1) :: st) H) ∧
  (∀ ls st H, aGo cl none cd_29 3 18 ls st H = aPut (fun st H => aGo cl none cd_29 3 21 ls st H) 2 5 H st) ∧
  (∀ ls st H, aGo cl none cd_29 3 21 ls st H = aVret 3 st H) :=
  ⟨fun _ _ _ => (aGo_s rfl).trans rfl, fun _ _ _ => (aGo_s rfl).trans rfl, fun _ _ _ => (aGo_s rfl).trans rfl, fun _ _ _ => (aGo_s rfl).trans rfl, fun _ _ _ => (aGo_s rfl).trans rfl, fun _ _ _ => (aGo_s rfl).trans rfl, fun _ _ _ => (aGo_s rfl).trans rfl, fun _ _ _ => (aGo_s rfl).trans rfl, fun _ _ _ => (aGo_s rfl).trans rfl, fun _ _ _ => (aGo_s rfl).trans rfl, fun _ _ _ => (aGo_s rfl).trans rfl, fun _ _ _ => (aGo_s rfl).trans rfl, fun _ _ _ => (aGo_s rfl).trans rfl⟩
theorem e_29 {d : Nat} {x0 : Nat} {x1 : Int32} {H : aH} : aCall aMt (d + 1) 29 [.ref x0, .int x1] H = aGo (aCall aMt d) none cd_29 3 0 [some (.ref x0), some (.int x1)] [] H := (c_0 rfl ⟨rfl, Nat.le_of_ble_eq_true rfl, Nat.le_of_ble_eq_true rfl⟩).trans rfl
theorem s_30 {cl : Nat → List Value → aH → aRs} : (∀ ls st H, aGo cl none cd_30 3 0 ls st H = aRLoad (fun st => aGo cl none cd_30 3 1 ls st H) ls 0 st) ∧
  (∀ ls st H, aGo cl none cd_30 3 1 ls st H = aILoad (fun st => aGo cl none cd_30 3 2 ls st H) ls 1 st) ∧
  (∀ ls st H, aGo cl none cd_30 3 2 ls st H = aGo cl none cd_30 3 4 ls (.int 10 :: st) H) ∧
  (∀ ls st H, aGo cl none cd_30 3 4 ls st H = aDiv (fun st => aGo cl none cd_30 3 5 ls st H) st) ∧
  (∀ ls st H, aGo cl none cd_30 3 5 ls st H = aPut (fun st H => aGo cl none cd_30 3 8 ls st H) 2 1 H st) ∧
  (∀ ls st H, aGo cl none cd_30 3 8 ls st H = aRLoad (fun st => aGo cl none cd_30 3 9 ls st H) ls 0 st) ∧
  (∀ ls st H, aGo cl none cd_30 3 9 ls st H = aILoad (fun st => aGo cl none cd_30 3 10 ls st H) ls 1 st) ∧
  (∀ ls st H, aGo cl none cd_30 3 10 ls st H = aGo cl none cd_30 3 12 ls (.int 10 :: st) H) ∧
  (∀ ls st H, aGo cl none cd_30 3 12 ls st H = aRem (fun st => aGo cl none cd_30 3 13 ls st H) st) ∧
  (∀ ls st H, aGo cl none cd_30 3 13 ls st H = aPut (fun st H => aGo cl none cd_30 3 16 ls st H) 2 2 H st) ∧
  (∀ ls st H, aGo cl none cd_30 3 16 ls st H = aVret 3 st H) :=
  ⟨fun _ _ _ => (aGo_s rfl).trans rfl, fun _ _ _ => (aGo_s rfl).trans rfl, fun _ _ _ => (aGo_s rfl).trans rfl, fun _ _ _ => (aGo_s rfl).trans rfl, fun _ _ _ => (aGo_s rfl).trans rfl, fun _ _ _ => (aGo_s rfl).trans rfl, fun _ _ _ => (aGo_s rfl).trans rfl, fun _ _ _ => (aGo_s rfl).trans rfl, fun _ _ _ => (aGo_s rfl).trans rfl, fun _ _ _ => (aGo_s rfl).trans rfl, fun _ _ _ => (aGo_s rfl).trans rfl⟩
theorem e_30 {d : Nat} {x0 : Nat} {x1 : Int32} {H : aH} : aCall aMt (d + 1) 30 [.ref x0, .int x1] H = aGo (aCall aMt d) none cd_30 3 0 [some (.ref x0), some (.int x1)] [] H := (c_0 rfl ⟨rfl, Nat.le_of_ble_eq_true rfl, Nat.le_of_ble_eq_true rfl⟩).trans rfl
theorem s_31 {cl : Nat → List Value → aH → aRs} : (∀ ls st H, aGo cl none cd_31 3 0 ls st H = aRLoad (fun st => aGo cl none cd_31 3 1 ls st H) ls 0 st) ∧
  (∀ ls st H, aGo cl none cd_31 3 1 ls st H = aRLoad (fun st => aGo cl none cd_31 3 2 ls st H) ls 1 st) ∧
  (∀ ls st H, aGo cl none cd_31 3 2 ls st H = aGet (fun st => aGo cl none cd_31 3 5 ls st H) 2 1 H st) ∧
  (∀ ls st H, aGo cl none cd_31 3 5 ls st H = aPut (fun st H => aGo cl none cd_31 3 8 ls st H) 2 1 H st) ∧
  (∀ ls st H, aGo cl none cd_31 3 8 ls st H = aRLoad (fun st => aGo cl none cd_31 3 9 ls st H) ls 0 st) ∧
  (∀ ls st H, aGo cl none cd_31 3 9 ls st H = aRLoad (fun st => aGo cl none cd_31 3 10 ls st H) ls 1 st) ∧
  (∀ ls st H, aGo cl none cd_31 3 10 ls st H = aGet (fun st => aGo cl none cd_31 3 13 ls st H) 2 2 H st) ∧
  (∀ ls st H, aGo cl none cd_31 3 13 ls st H = aPut (fun st H => aGo cl none cd_31 3 16 ls st H) 2 2 H st) ∧
  (∀ ls st H, aGo cl none cd_31 3 16 ls st H = aRLoad (fun st => aGo cl none cd_31 3 17 ls st H) ls 0 st) ∧
  (∀ ls st H, aGo cl none cd_31 3 17 ls st H = aRLoad (fun st => aGo cl none cd_31 3 18 ls st H) ls 1 st) ∧
  (∀ ls st H, aGo cl none cd_31 3 18 ls st H = aGet (fun st => aGo cl none cd_31 3 21 ls st H) 2 3 H st) ∧
  (∀ ls st H, aGo cl none cd_31 3 21 ls st H = aPut (fun st H => aGo cl none cd_31 3 24 ls st H) 2 3 H st) ∧
  (∀ ls st H, aGo cl none cd_31 3 24 ls st H = aRLoad (fun st => aGo cl none cd_31 3 25 ls st H) ls 0 st) ∧
  (∀ ls st H, aGo cl none cd_31 3 25 ls st H = aRLoad (fun st => aGo cl none cd_31 3 26 ls st H) ls 1 st) ∧
  (∀ ls st H, aGo cl none cd_31 3 26 ls st H = aGet (fun st => aGo cl none cd_31 3 29 ls st H) 2 4 H st) ∧
  (∀ ls st H, aGo cl none cd_31 3 29 ls st H = aPut (fun st H => aGo cl none cd_31 3 32 ls st H) 2 4 H st) ∧
  (∀ ls st H, aGo cl none cd_31 3 32 ls st H = aRLoad (fun st => aGo cl none cd_31 3 33 ls st H) ls 0 st) ∧
  (∀ ls st H, aGo cl none cd_31 3 33 ls st H = aRLoad (fun st => aGo cl none cd_31 3 34 ls st H) ls 1 st) ∧
  (∀ ls st H, aGo cl none cd_31 3 34 ls st H = aGet (fun st => aGo cl none cd_31 3 37 ls st H) 2 5 H st) ∧
  (∀ ls st H, aGo cl none cd_31 3 37 ls st H = aPut (fun st H => aGo cl none cd_31 3 40 ls st H) 2 5 H st) ∧
  (∀ ls st H, aGo cl none cd_31 3 40 ls st H = aVret 3 st H) :=
  ⟨fun _ _ _ => (aGo_s rfl).trans rfl, fun _ _ _ => (aGo_s rfl).trans rfl, fun _ _ _ => (aGo_s rfl).trans rfl, fun _ _ _ => (aGo_s rfl).trans rfl, fun _ _ _ => (aGo_s rfl).trans rfl, fun _ _ _ => (aGo_s rfl).trans rfl, fun _ _ _ => (aGo_s rfl).trans rfl, fun _ _ _ => (aGo_s rfl).trans rfl, fun _ _ _ => (aGo_s rfl).trans rfl, fun _ _ _ => (aGo_s rfl).trans rfl, fun _ _ _ => (aGo_s rfl).trans rfl, fun _ _ _ => (aGo_s rfl).trans rfl, fun _ _ _ => (aGo_s rfl).trans rfl, fun _ _ _ => (aGo_s rfl).trans rfl, fun _ _ _ => (aGo_s rfl).trans rfl, fun _ _ _ => (aGo_s rfl).trans rfl, fun _ _ _ => (aGo_s rfl).trans rfl, fun _ _ _ => (aGo_s rfl).trans rfl, fun _ _ _ => (aGo_s rfl).trans rfl, fun _ _ _ => (aGo_s rfl).trans rfl, fun _ _ _ => (aGo_s rfl).trans rfl⟩
theorem e_31 {d : Nat} {x0 : Nat} {x1 : Nat} {H : aH} : aCall aMt (d + 1) 31 [.ref x0, .ref x1] H = aGo (aCall aMt d) none cd_31 3 0 [some (.ref x0), some (.ref x1)] [] H := (c_0 rfl ⟨rfl, Nat.le_of_ble_eq_true rfl, Nat.le_of_ble_eq_true rfl⟩).trans rfl
theorem s_32 {cl : Nat → List Value → aH → aRs} : (∀ ls st H, aGo cl none cd_32 1 0 ls st H = aRLoad (fun st => aGo cl none cd_32 1 1 ls st H) ls 0 st) ∧
  (∀ ls st H, aGo cl none cd_32 1 1 ls st H = aGet (fun st => aGo cl none cd_32 1 4 ls st H) 2 1 H st) ∧
  (∀ ls st H, aGo cl none cd_32 1 4 ls st H = aIStore (fun ls st => aGo cl none cd_32 1 5 ls st H) ls 2 st) ∧
  (∀ ls st H, aGo cl none cd_32 1 5 ls st H = aGo cl none cd_32 1 6 ls (.int 0 :: st) H) ∧
  (∀ ls st H, aGo cl none cd_32 1 6 ls st H = aIStore (fun ls st => aGo cl none cd_32 1 7 ls st H) ls 3 st) ∧
  (∀ ls st H, aGo cl none cd_32 1 8 ls st H = aGo cl none cd_32 1 10 ls (.int 7 :: st) H) ∧
  (∀ ls st H, aGo cl none cd_32 1 10 ls st H = aIc (fun p st => aGo cl none cd_32 1 p ls st H) .ge 42 13 st) ∧
  (∀ ls st H, aGo cl none cd_32 1 13 ls st H = aILoad (fun st => aGo cl none cd_32 1 14 ls st H) ls 2 st) ∧
  (∀ ls st H, aGo cl none cd_32 1 14 ls st H = aGo cl none cd_32 1 15 ls (.int 0 :: st) H) ∧
  (∀ ls st H, aGo cl none cd_32 1 15 ls st H = aGo cl none cd_32 1 17 ls (.int 6 :: st) H) ∧
  (∀ ls st H, aGo cl none cd_32 1 17 ls st H = aCallI (fun st H => aGo cl none cd_32 1 20 ls st H) cl 106 3 H st) ∧
  (∀ ls st H, aGo cl none cd_32 1 20 ls st H = aIf (fun p st => aGo cl none cd_32 1 p ls st H) .eq 42 23 st) ∧
  (∀ ls st H, aGo cl none cd_32 1 23 ls st H = aILoad (fun st => aGo cl none cd_32 1 24 ls st H) ls 2 st) ∧
  (∀ ls st H, aGo cl none cd_32 1 24 ls st H = aILoad (fun st => aGo cl none cd_32 1 25 ls st H) ls 1 st) ∧
  (∀ ls st H, aGo cl none cd_32 1 25 ls st H = aIc (fun p st => aGo cl none cd_32 1 p ls st H) .ne 30 28 st) ∧
  (∀ ls st H, aGo cl none cd_32 1 28 ls st H = aGo cl none cd_32 1 29 ls (.int 1 :: st) H) ∧
  (∀ ls st H, aGo cl none cd_32 1 29 ls st H = aIret 1 st H) ∧
  (∀ ls st H, aGo cl none cd_32 1 30 ls st H = aGo cl none cd_32 1 33 ls (.ref 1000 :: st) H) ∧
  (∀ ls st H, aGo cl none cd_32 1 33 ls st H = aILoad (fun st => aGo cl none cd_32 1 34 ls st H) ls 2 st) ∧
  (∀ ls st H, aGo cl none cd_32 1 34 ls st H = aIald (fun st => aGo cl none cd_32 1 35 ls st H) none H st) ∧
  (∀ ls st H, aGo cl none cd_32 1 35 ls st H = aIStore (fun ls st => aGo cl none cd_32 1 36 ls st H) ls 2 st) ∧
  (∀ ls st H, aGo cl none cd_32 1 36 ls st H = aInc (fun ls => aGo cl none cd_32 1 39 ls st H) ls 3 1) ∧
  (∀ ls st H, aGo cl none cd_32 1 39 ls st H = aGo cl none cd_32 1 7 ls st H) ∧
  (∀ ls st H, aGo cl none cd_32 1 42 ls st H = aGo cl none cd_32 1 43 ls (.int 0 :: st) H) ∧
  (∀ ls st H, aGo cl none cd_32 1 43 ls st H = aIret 1 st H) :=
  ⟨fun _ _ _ => (aGo_s rfl).trans rfl, fun _ _ _ => (aGo_s rfl).trans rfl, fun _ _ _ => (aGo_s rfl).trans rfl, fun _ _ _ => (aGo_s rfl).trans rfl, fun _ _ _ => (aGo_s rfl).trans rfl, fun _ _ _ => (aGo_s rfl).trans rfl, fun _ _ _ => (aGo_s rfl).trans rfl, fun _ _ _ => (aGo_s rfl).trans rfl, fun _ _ _ => (aGo_s rfl).trans rfl, fun _ _ _ => (aGo_s rfl).trans rfl, fun _ _ _ => (aGo_s rfl).trans rfl, fun _ _ _ => (aGo_s rfl).trans rfl, fun _ _ _ => (aGo_s rfl).trans rfl, fun _ _ _ => (aGo_s rfl).trans rfl, fun _ _ _ => (aGo_s rfl).trans rfl, fun _ _ _ => (aGo_s rfl).trans rfl, fun _ _ _ => (aGo_s rfl).trans rfl, fun _ _ _ => (aGo_s rfl).trans rfl, fun _ _ _ => (aGo_s rfl).trans rfl, fun _ _ _ => (aGo_s rfl).trans rfl, fun _ _ _ => (aGo_s rfl).trans rfl, fun _ _ _ => (aGo_s rfl).trans rfl, fun _ _ _ => (aGo_s rfl).trans rfl, fun _ _ _ => (aGo_s rfl).trans rfl, fun _ _ _ => (aGo_s rfl).trans rfl⟩
theorem s_32_7 {cl : Nat → List Value → aH → aRs} : ∀ ls st H, aGo cl none cd_32 1 7 ls st H = aILoad (fun st => aGo cl none cd_32 1 8 ls st H) ls 3 st := fun _ _ _ => (aGo_s rfl).trans rfl
theorem e_32 {d : Nat} {x0 : Nat} {x1 : Int32} {H : aH} : aCall aMt (d + 1) 32 [.ref x0, .int x1] H = aGo (aCall aMt d) none cd_32 1 0 [some (.ref x0), some (.int x1), none, none] [] H := (c_0 rfl ⟨rfl, Nat.le_of_ble_eq_true rfl, Nat.le_of_ble_eq_true rfl⟩).trans rfl
theorem s_33 {cl : Nat → List Value → aH → aRs} : (∀ ls st H, aGo cl none cd_33 1 0 ls st H = aRLoad (fun st => aGo cl none cd_33 1 1 ls st H) ls 1 st) ∧
  (∀ ls st H, aGo cl none cd_33 1 1 ls st H = aGet (fun st => aGo cl none cd_33 1 4 ls st H) 5 0 H st) ∧
  (∀ ls st H, aGo cl none cd_33 1 4 ls st H = aRLoad (fun st => aGo cl none cd_33 1 5 ls st H) ls 0 st) ∧
  (∀ ls st H, aGo cl none cd_33 1 5 ls st H = aGet (fun st => aGo cl none cd_33 1 8 ls st H) 2 0 H st) ∧
  (∀ ls st H, aGo cl none cd_33 1 8 ls st H = aIc (fun p st => aGo cl none cd_33 1 p ls st H) .ne 15 11 st) ∧
  (∀ ls st H, aGo cl none cd_33 1 11 ls st H = aGo cl none cd_33 1 12 ls (.int 1 :: st) H) ∧
  (∀ ls st H, aGo cl none cd_33 1 12 ls st H = aGo cl none cd_33 1 16 ls st H) ∧
  (∀ ls st H, aGo cl none cd_33 1 15 ls st H = aGo cl none cd_33 1 16 ls (.int 0 :: st) H) ∧
  (∀ ls st H, aGo cl none cd_33 1 16 ls st H = aIret 1 st H) :=
  ⟨fun _ _ _ => (aGo_s rfl).trans rfl, fun _ _ _ => (aGo_s rfl).trans rfl, fun _ _ _ => (aGo_s rfl).trans rfl, fun _ _ _ => (aGo_s rfl).trans rfl, fun _ _ _ => (aGo_s rfl).trans rfl, fun _ _ _ => (aGo_s rfl).trans rfl, fun _ _ _ => (aGo_s rfl).trans rfl, fun _ _ _ => (aGo_s rfl).trans rfl, fun _ _ _ => (aGo_s rfl).trans rfl⟩
theorem e_33 {d : Nat} {x0 : Nat} {x1 : Nat} {H : aH} : aCall aMt (d + 1) 33 [.ref x0, .ref x1] H = aGo (aCall aMt d) none cd_33 1 0 [some (.ref x0), some (.ref x1)] [] H := (c_0 rfl ⟨rfl, Nat.le_of_ble_eq_true rfl, Nat.le_of_ble_eq_true rfl⟩).trans rfl
theorem s_34 {cl : Nat → List Value → aH → aRs} : (∀ ls st H, aGo cl none cd_34 0 0 ls st H = aRLoad (fun st => aGo cl none cd_34 0 1 ls st H) ls 0 st) ∧
  (∀ ls st H, aGo cl none cd_34 0 1 ls st H = aRLoad (fun st => aGo cl none cd_34 0 2 ls st H) ls 1 st) ∧
  (∀ ls st H, aGo cl none cd_34 0 2 ls st H = aCallV (fun st H => aGo cl none cd_34 0 5 ls st H) cl 33 1 2 H st) ∧
  (∀ ls st H, aGo cl none cd_34 0 5 ls st H = aIStore (fun ls st => aGo cl none cd_34 0 6 ls st H) ls 3 st) ∧
  (∀ ls st H, aGo cl none cd_34 0 6 ls st H = aILoad (fun st => aGo cl none cd_34 0 7 ls st H) ls 3 st) ∧
  (∀ ls st H, aGo cl none cd_34 0 7 ls st H = aIf (fun p st => aGo cl none cd_34 0 p ls st H) .eq 20 10 st) ∧
  (∀ ls st H, aGo cl none cd_34 0 10 ls st H = aGo cl none cd_34 0 12 ls (.int 50 :: st) H) ∧
  (∀ ls st H, aGo cl none cd_34 0 12 ls st H = aRLoad (fun st => aGo cl none cd_34 0 13 ls st H) ls 0 st) ∧
  (∀ ls st H, aGo cl none cd_34 0 13 ls st H = aGet (fun st => aGo cl none cd_34 0 16 ls st H) 2 3 H st) ∧
  (∀ ls st H, aGo cl none cd_34 0 16 ls st H = aBin (fun st => aGo cl none cd_34 0 17 ls st H) (fun x y => x + y) st) ∧
  (∀ ls st H, aGo cl none cd_34 0 17 ls st H = aGo cl none cd_34 0 21 ls st H) ∧
  (∀ ls st H, aGo cl none cd_34 0 20 ls st H = aGo cl none cd_34 0 21 ls (.int 0 :: st) H) ∧
  (∀ ls st H, aGo cl none cd_34 0 21 ls st H = aIStore (fun ls st => aGo cl none cd_34 0 23 ls st H) ls 4 st) ∧
  (∀ ls st H, aGo cl none cd_34 0 23 ls st H = aILoad (fun st => aGo cl none cd_34 0 24 ls st H) ls 3 st) ∧
  (∀ ls st H, aGo cl none cd_34 0 24 ls st H = aIf (fun p st => aGo cl none cd_34 0 p ls st H) .eq 32 27 st) ∧
  (∀ ls st H, aGo cl none cd_34 0 27 ls st H = aILoad (fun st => aGo cl none cd_34 0 29 ls st H) ls 4 st) ∧
  (∀ ls st H, aGo cl none cd_34 0 29 ls st H = aGo cl none cd_34 0 47 ls st H) ∧
  (∀ ls st H, aGo cl none cd_34 0 32 ls st H = aGo cl none cd_34 0 33 ls (.int 0 :: st) H) ∧
  (∀ ls st H, aGo cl none cd_34 0 33 ls st H = aILoad (fun st => aGo cl none cd_34 0 34 ls st H) ls 2 st) ∧
  (∀ ls st H, aGo cl none cd_34 0 34 ls st H = aRLoad (fun st => aGo cl none cd_34 0 35 ls st H) ls 0 st) ∧
  (∀ ls st H, aGo cl none cd_34 0 35 ls st H = aGet (fun st => aGo cl none cd_34 0 38 ls st H) 2 3 H st) ∧
  (∀ ls st H, aGo cl none cd_34 0 38 ls st H = aGo cl none cd_34 0 39 ls (.int 2 :: st) H) ∧
  (∀ ls st H, aGo cl none cd_34 0 39 ls st H = aDiv (fun st => aGo cl none cd_34 0 40 ls st H) st) ∧
  (∀ ls st H, aGo cl none cd_34 0 40 ls st H = aBin (fun st => aGo cl none cd_34 0 41 ls st H) (fun x y => x + y) st) ∧
  (∀ ls st H, aGo cl none cd_34 0 41 ls st H = aGo cl none cd_34 0 43 ls (.int 20 :: st) H) ∧
  (∀ ls st H, aGo cl none cd_34 0 43 ls st H = aBin (fun st => aGo cl none cd_34 0 44 ls st H) (fun x y => x - y) st) ∧
  (∀ ls st H, aGo cl none cd_34 0 44 ls st H = aMax (fun st => aGo cl none cd_34 0 47 ls st H) st) ∧
  (∀ ls st H, aGo cl none cd_34 0 47 ls st H = aIStore (fun ls st => aGo cl none cd_34 0 49 ls st H) ls 5 st) ∧
  (∀ ls st H, aGo cl none cd_34 0 49 ls st H = aILoad (fun st => aGo cl none cd_34 0 50 ls st H) ls 3 st) ∧
  (∀ ls st H, aGo cl none cd_34 0 50 ls st H = aIf (fun p st => aGo cl none cd_34 0 p ls st H) .ne 60 53 st) ∧
  (∀ ls st H, aGo cl none cd_34 0 53 ls st H = aRLoad (fun st => aGo cl none cd_34 0 54 ls st H) ls 0 st) ∧
  (∀ ls st H, aGo cl none cd_34 0 54 ls st H = aGet (fun st => aGo cl none cd_34 0 57 ls st H) 2 4 H st) ∧
  (∀ ls st H, aGo cl none cd_34 0 57 ls st H = aIf (fun p st => aGo cl none cd_34 0 p ls st H) .ne 65 60 st) ∧
  (∀ ls st H, aGo cl none cd_34 0 60 ls st H = aILoad (fun st => aGo cl none cd_34 0 62 ls st H) ls 4 st) ∧
  (∀ ls st H, aGo cl none cd_34 0 62 ls st H = aGo cl none cd_34 0 76 ls st H) ∧
  (∀ ls st H, aGo cl none cd_34 0 65 ls st H = aGo cl none cd_34 0 67 ls (.int 15 :: st) H) ∧
  (∀ ls st H, aGo cl none cd_34 0 67 ls st H = aRLoad (fun st => aGo cl none cd_34 0 68 ls st H) ls 0 st) ∧
  (∀ ls st H, aGo cl none cd_34 0 68 ls st H = aGet (fun st => aGo cl none cd_34 0 71 ls st H) 2 4 H st) ∧
  (∀ ls st H, aGo cl none cd_34 0 71 ls st H = aBin (fun st => aGo cl none cd_34 0 72 ls st H) (fun x y => x * y) st) ∧
  (∀ ls st H, aGo cl none cd_34 0 72 ls st H = aILoad (fun st => aGo cl none cd_34 0 73 ls st H) ls 2 st) ∧
  (∀ ls st H, aGo cl none cd_34 0 73 ls st H = aGo cl none cd_34 0 74 ls (.int 2 :: st) H) ∧
  (∀ ls st H, aGo cl none cd_34 0 74 ls st H = aDiv (fun st => aGo cl none cd_34 0 75 ls st H) st) ∧
  (∀ ls st H, aGo cl none cd_34 0 75 ls st H = aBin (fun st => aGo cl none cd_34 0 76 ls st H) (fun x y => x + y) st) ∧
  (∀ ls st H, aGo cl none cd_34 0 76 ls st H = aIStore (fun ls st => aGo cl none cd_34 0 78 ls st H) ls 6 st) ∧
  (∀ ls st H, aGo cl none cd_34 0 78 ls st H = aRLoad (fun st => aGo cl none cd_34 0 79 ls st H) ls 0 st) ∧
  (∀ ls st H, aGo cl none cd_34 0 79 ls st H = aGet (fun st => aGo cl none cd_34 0 82 ls st H) 2 1 H st) ∧
  (∀ ls st H, aGo cl none cd_34 0 82 ls st H = aSwS (fun p st => aGo cl none cd_34 0 p ls st H) [(1, 120), (2, 123), (3, 126), (4, 128), (5, 136), (6, 158)] 176 st) ∧
  (∀ ls st H, aGo cl none cd_34 0 120 ls st H = aILoad (fun st => aGo cl none cd_34 0 122 ls st H) ls 5 st) ∧
  (∀ ls st H, aGo cl none cd_34 0 122 ls st H = aIret 0 st H) ∧
  (∀ ls st H, aGo cl none cd_34 0 123 ls st H = aILoad (fun st => aGo cl none cd_34 0 125 ls st H) ls 6 st) ∧
  (∀ ls st H, aGo cl none cd_34 0 125 ls st H = aIret 0 st H) ∧
  (∀ ls st H, aGo cl none cd_34 0 126 ls st H = aILoad (fun st => aGo cl none cd_34 0 127 ls st H) ls 2 st) ∧
  (∀ ls st H, aGo cl none cd_34 0 127 ls st H = aIret 0 st H) ∧
  (∀ ls st H, aGo cl none cd_34 0 128 ls st H = aILoad (fun st => aGo cl none cd_34 0 130 ls st H) ls 5 st) ∧
  (∀ ls st H, aGo cl none cd_34 0 130 ls st H = aRLoad (fun st => aGo cl none cd_34 0 131 ls st H) ls 0 st) ∧
  (∀ ls st H, aGo cl none cd_34 0 131 ls st H = aGet (fun st => aGo cl none cd_34 0 134 ls st H) 2 2 H st) ∧
  (∀ ls st H, aGo cl none cd_34 0 134 ls st H = aBin (fun st => aGo cl none cd_34 0 135 ls st H) (fun x y => x + y) st) ∧
  (∀ ls st H, aGo cl none cd_34 0 135 ls st H = aIret 0 st H) ∧
  (∀ ls st H, aGo cl none cd_34 0 136 ls st H = aILoad (fun st => aGo cl none cd_34 0 137 ls st H) ls 3 st) ∧
  (∀ ls st H, aGo cl none cd_34 0 137 ls st H = aIf (fun p st => aGo cl none cd_34 0 p ls st H) .ne 151 140 st) ∧
  (∀ ls st H, aGo cl none cd_34 0 140 ls st H = aRLoad (fun st => aGo cl none cd_34 0 141 ls st H) ls 1 st) ∧
  (∀ ls st H, aGo cl none cd_34 0 141 ls st H = aGet (fun st => aGo cl none cd_34 0 144 ls st H) 5 0 H st) ∧
  (∀ ls st H, aGo cl none cd_34 0 144 ls st H = aRLoad (fun st => aGo cl none cd_34 0 145 ls st H) ls 0 st) ∧
  (∀ ls st H, aGo cl none cd_34 0 145 ls st H = aGet (fun st => aGo cl none cd_34 0 148 ls st H) 2 5 H st) ∧
  (∀ ls st H, aGo cl none cd_34 0 148 ls st H = aIc (fun p st => aGo cl none cd_34 0 p ls st H) .ne 156 151 st) ∧
  (∀ ls st H, aGo cl none cd_34 0 151 ls st H = aILoad (fun st => aGo cl none cd_34 0 153 ls st H) ls 6 st) ∧
  (∀ ls st H, aGo cl none cd_34 0 153 ls st H = aGo cl none cd_34 0 157 ls st H) ∧
  (∀ ls st H, aGo cl none cd_34 0 156 ls st H = aGo cl none cd_34 0 157 ls (.int 0 :: st) H) ∧
  (∀ ls st H, aGo cl none cd_34 0 157 ls st H = aIret 0 st H) ∧
  (∀ ls st H, aGo cl none cd_34 0 158 ls st H = aRLoad (fun st => aGo cl none cd_34 0 159 ls st H) ls 1 st) ∧
  (∀ ls st H, aGo cl none cd_34 0 159 ls st H = aGet (fun st => aGo cl none cd_34 0 162 ls st H) 5 3 H st) ∧
  (∀ ls st H, aGo cl none cd_34 0 162 ls st H = aRLoad (fun st => aGo cl none cd_34 0 163 ls st H) ls 0 st) ∧
  (∀ ls st H, aGo cl none cd_34 0 163 ls st H = aGet (fun st => aGo cl none cd_34 0 166 ls st H) 2 2 H st) ∧
  (∀ ls st H, aGo cl none cd_34 0 166 ls st H = aIc (fun p st => aGo cl none cd_34 0 p ls st H) .lt 174 169 st) ∧
  (∀ ls st H, aGo cl none cd_34 0 169 ls st H = aGo cl none cd_34 0 171 ls (.int 30 :: st) H) ∧
  (∀ ls st H, aGo cl none cd_34 0 171 ls st H = aGo cl none cd_34 0 175 ls st H) ∧
  (∀ ls st H, aGo cl none cd_34 0 174 ls st H = aGo cl none cd_34 0 175 ls (.int 0 :: st) H) ∧
  (∀ ls st H, aGo cl none cd_34 0 175 ls st H = aIret 0 st H) ∧
  (∀ ls st H, aGo cl none cd_34 0 176 ls st H = aILoad (fun st => aGo cl none cd_34 0 178 ls st H) ls 4 st) ∧
  (∀ ls st H, aGo cl none cd_34 0 178 ls st H = aIret 0 st H) :=
  ⟨fun _ _ _ => (aGo_s rfl).trans rfl, fun _ _ _ => (aGo_s rfl).trans rfl, fun _ _ _ => (aGo_s rfl).trans rfl, fun _ _ _ => (aGo_s rfl).trans rfl, fun _ _ _ => (aGo_s rfl).trans rfl, fun _ _ _ => (aGo_s rfl).trans rfl, fun _ _ _ => (aGo_s rfl).trans rfl, fun _ _ _ => (aGo_s rfl).trans rfl, fun _ _ _ => (aGo_s rfl).trans rfl, fun _ _ _ => (aGo_s rfl).trans rfl, fun _ _ _ => (aGo_s rfl).trans rfl, fun _ _ _ => (aGo_s rfl).trans rfl, fun _ _ _ => (aGo_s rfl).trans rfl, fun _ _ _ => (aGo_s rfl).trans rfl, fun _ _ _ => (aGo_s rfl).trans rfl, fun _ _ _ => (aGo_s rfl).trans rfl, fun _ _ _ => (aGo_s rfl).trans rfl, fun _ _ _ => (aGo_s rfl).trans rfl, fun _ _ _ => (aGo_s rfl).trans rfl, fun _ _ _ => (aGo_s rfl).trans rfl, fun _ _ _ => (aGo_s rfl).trans rfl, fun _ _ _ => (aGo_s rfl).trans rfl, fun _ _ _ => (aGo_s rfl).trans rfl, fun _ _ _ => (aGo_s rfl).trans rfl, fun _ _ _ => (aGo_s rfl).trans rfl, fun _ _ _ => (aGo_s rfl).trans rfl, fun _ _ _ => (aGo_s rfl).trans rfl, fun _ _ _ => (aGo_s rfl).trans rfl, fun _ _ _ => (aGo_s rfl).trans rfl, fun _ _ _ => (aGo_s rfl).trans rfl, fun _ _ _ => (aGo_s rfl).trans rfl, fun _ _ _ => (aGo_s rfl).trans rfl, fun _ _ _ => (aGo_s rfl).trans rfl, fun _ _ _ => (aGo_s rfl).trans rfl, fun _ _ _ => (aGo_s rfl).trans rfl, fun _ _ _ => (aGo_s rfl).trans rfl, fun _ _ _ => (aGo_s rfl).trans rfl, fun _ _ _ => (aGo_s rfl).trans rfl, fun _ _ _ => (aGo_s rfl).trans rfl, fun _ _ _ => (aGo_s rfl).trans rfl, fun _ _ _ => (aGo_s rfl).trans rfl, fun _ _ _ => (aGo_s rfl).trans rfl, fun _ _ _ => (aGo_s rfl).trans rfl, fun _ _ _ => (aGo_s rfl).trans rfl, fun _ _ _ => (aGo_s rfl).trans rfl, fun _ _ _ => (aGo_s rfl).trans rfl, fun _ _ _ => (aGo_s rfl).trans rfl, fun _ _ _ => (aGo_s rfl).trans rfl, fun _ _ _ => (aGo_s rfl).trans rfl, fun _ _ _ => (aGo_s rfl).trans rfl, fun _ _ _ => (aGo_s rfl).trans rfl, fun _ _ _ => (aGo_s rfl).trans rfl, fun _ _ _ => (aGo_s rfl).trans rfl, fun _ _ _ => (aGo_s rfl).trans rfl, fun _ _ _ => (aGo_s rfl).trans rfl, fun _ _ _ => (aGo_s rfl).trans rfl, fun _ _ _ => (aGo_s rfl).trans rfl, fun _ _ _ => (aGo_s rfl).trans rfl, fun _ _ _ => (aGo_s rfl).trans rfl, fun _ _ _ => (aGo_s rfl).trans rfl, fun _ _ _ => (aGo_s rfl).trans rfl, fun _ _ _ => (aGo_s rfl).trans rfl, fun _ _ _ => (aGo_s rfl).trans rfl, fun _ _ _ => (aGo_s rfl).trans rfl, fun _ _ _ => (aGo_s rfl).trans rfl, fun _ _ _ => (aGo_s rfl).trans rfl, fun _ _ _ => (aGo_s rfl).trans rfl, fun _ _ _ => (aGo_s rfl).trans rfl, fun _ _ _ => (aGo_s rfl).trans rfl, fun _ _ _ => (aGo_s rfl).trans rfl, fun _ _ _ => (aGo_s rfl).trans rfl, fun _ _ _ => (aGo_s rfl).trans rfl, fun _ _ _ => (aGo_s rfl).trans rfl, fun _ _ _ => (aGo_s rfl).trans rfl, fun _ _ _ => (aGo_s rfl).trans rfl, fun _ _ _ => (aGo_s rfl).trans rfl, fun _ _ _ => (aGo_s rfl).trans rfl, fun _ _ _ => (aGo_s rfl).trans rfl, fun _ _ _ => (aGo_s rfl).trans rfl, fun _ _ _ => (aGo_s rfl).trans rfl⟩
theorem e_34 {d : Nat} {x0 : Nat} {x1 : Nat} {x2 : Int32} {H : aH} : aCall aMt (d + 1) 34 [.ref x0, .ref x1, .int x2] H = aGo (aCall aMt d) none cd_34 0 0 [some (.ref x0), some (.ref x1), some (.int x2), none, none, none, none] [] H := (c_0 rfl ⟨rfl, Nat.le_of_ble_eq_true rfl, Nat.le_of_ble_eq_true rfl⟩).trans rfl
theorem s_35 {cl : Nat → List Value → aH → aRs} : (∀ ls st H, aGo cl none cd_35 3 0 ls st H = aRLoad (fun st => aGo cl none cd_35 3 1 ls st H) ls 0 st) ∧
  (∀ ls st H, aGo cl none cd_35 3 1 ls st H = aGo cl none cd_35 3 3 ls (.int 99 :: st) H) ∧
  (∀ ls st H, aGo cl none cd_35 3 3 ls st H = aRLoad (fun st => aGo cl none cd_35 3 4 ls st H) ls 0 st) ∧
  (∀ ls st H, aGo cl none cd_35 3 4 ls st H = aGet (fun st => aGo cl none cd_35 3 7 ls st H) 2 3 H st) ∧
  (∀ ls st H, aGo cl none cd_35 3 7 ls st H = aGo cl none cd_35 3 8 ls (.int 4 :: st) H) ∧
  (∀ ls st H, aGo cl none cd_35 3 8 ls st H = aBin (fun st => aGo cl none cd_35 3 9 ls st H) (fun x y => x + y) st) ∧
  (∀ ls st H, aGo cl none cd_35 3 9 ls st H = aMin (fun st => aGo cl none cd_35 3 12 ls st H) st) ∧
  (∀ ls st H, aGo cl none cd_35 3 12 ls st H = aPut (fun st H => aGo cl none cd_35 3 15 ls st H) 2 3 H st) ∧
  (∀ ls st H, aGo cl none cd_35 3 15 ls st H = aVret 3 st H) :=
  ⟨fun _ _ _ => (aGo_s rfl).trans rfl, fun _ _ _ => (aGo_s rfl).trans rfl, fun _ _ _ => (aGo_s rfl).trans rfl, fun _ _ _ => (aGo_s rfl).trans rfl, fun _ _ _ => (aGo_s rfl).trans rfl, fun _ _ _ => (aGo_s rfl).trans rfl, fun _ _ _ => (aGo_s rfl).trans rfl, fun _ _ _ => (aGo_s rfl).trans rfl, fun _ _ _ => (aGo_s rfl).trans rfl⟩
theorem e_35 {d : Nat} {x0 : Nat} {H : aH} : aCall aMt (d + 1) 35 [.ref x0] H = aGo (aCall aMt d) none cd_35 3 0 [some (.ref x0)] [] H := (c_0 rfl ⟨rfl, Nat.le_of_ble_eq_true rfl, Nat.le_of_ble_eq_true rfl⟩).trans rfl
theorem s_36 {cl : Nat → List Value → aH → aRs} : (∀ ls st H, aGo cl none cd_36 3 0 ls st H = aRLoad (fun st => aGo cl none cd_36 3 1 ls st H) ls 0 st) ∧
  (∀ ls st H, aGo cl none cd_36 3 1 ls st H = aGo cl none cd_36 3 3 ls (.int 9 :: st) H) ∧
  (∀ ls st H, aGo cl none cd_36 3 3 ls st H = aRLoad (fun st => aGo cl none cd_36 3 4 ls st H) ls 0 st) ∧
  (∀ ls st H, aGo cl none cd_36 3 4 ls st H = aGet (fun st => aGo cl none cd_36 3 7 ls st H) 2 4 H st) ∧
  (∀ ls st H, aGo cl none cd_36 3 7 ls st H = aGo cl none cd_36 3 8 ls (.int 1 :: st) H) ∧
  (∀ ls st H, aGo cl none cd_36 3 8 ls st H = aBin (fun st => aGo cl none cd_36 3 9 ls st H) (fun x y => x + y) st) ∧
  (∀ ls st H, aGo cl none cd_36 3 9 ls st H = aMin (fun st => aGo cl none cd_36 3 12 ls st H) st) ∧
  (∀ ls st H, aGo cl none cd_36 3 12 ls st H = aPut (fun st H => aGo cl none cd_36 3 15 ls st H) 2 4 H st) ∧
  (∀ ls st H, aGo cl none cd_36 3 15 ls st H = aVret 3 st H) :=
  ⟨fun _ _ _ => (aGo_s rfl).trans rfl, fun _ _ _ => (aGo_s rfl).trans rfl, fun _ _ _ => (aGo_s rfl).trans rfl, fun _ _ _ => (aGo_s rfl).trans rfl, fun _ _ _ => (aGo_s rfl).trans rfl, fun _ _ _ => (aGo_s rfl).trans rfl, fun _ _ _ => (aGo_s rfl).trans rfl, fun _ _ _ => (aGo_s rfl).trans rfl, fun _ _ _ => (aGo_s rfl).trans rfl⟩
theorem e_36 {d : Nat} {x0 : Nat} {H : aH} : aCall aMt (d + 1) 36 [.ref x0] H = aGo (aCall aMt d) none cd_36 3 0 [some (.ref x0)] [] H := (c_0 rfl ⟨rfl, Nat.le_of_ble_eq_true rfl, Nat.le_of_ble_eq_true rfl⟩).trans rfl
