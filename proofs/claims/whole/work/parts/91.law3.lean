/-! THE LAW: the last cases (by program gen89.py) -/
theorem w_28 {cl : Nat → List Value → aH → aRs} {L : Nat} {xs : Nat → Int32} : (∀ ls st H, aGo cl (some (L, xs)) cd_law 1 1116 ls st H = aRLoad (fun st => aGo cl (some (L, xs)) cd_law 1 1117 ls st H) ls 1 st) ∧
  (∀ ls st H, aGo cl (some (L, xs)) cd_law 1 1117 ls st H = aRLoad (fun st => aGo cl (some (L, xs)) cd_law 1 1118 ls st H) ls 0 st) ∧
  (∀ ls st H, aGo cl (some (L, xs)) cd_law 1 1118 ls st H = aILoad (fun st => aGo cl (some (L, xs)) cd_law 1 1119 ls st H) ls 3 st) ∧
  (∀ ls st H, aGo cl (some (L, xs)) cd_law 1 1119 ls st H = aGo cl (some (L, xs)) cd_law 1 1120 ls (.int 1 :: st) H) ∧
  (∀ ls st H, aGo cl (some (L, xs)) cd_law 1 1120 ls st H = aBin (fun st => aGo cl (some (L, xs)) cd_law 1 1121 ls st H) (fun x y => x + y) st) ∧
  (∀ ls st H, aGo cl (some (L, xs)) cd_law 1 1121 ls st H = aIald (fun st => aGo cl (some (L, xs)) cd_law 1 1122 ls st H) (some (L, xs)) H st) ∧
  (∀ ls st H, aGo cl (some (L, xs)) cd_law 1 1122 ls st H = aRLoad (fun st => aGo cl (some (L, xs)) cd_law 1 1123 ls st H) ls 0 st) ∧
  (∀ ls st H, aGo cl (some (L, xs)) cd_law 1 1123 ls st H = aILoad (fun st => aGo cl (some (L, xs)) cd_law 1 1124 ls st H) ls 3 st) ∧
  (∀ ls st H, aGo cl (some (L, xs)) cd_law 1 1124 ls st H = aGo cl (some (L, xs)) cd_law 1 1125 ls (.int 2 :: st) H) ∧
  (∀ ls st H, aGo cl (some (L, xs)) cd_law 1 1125 ls st H = aBin (fun st => aGo cl (some (L, xs)) cd_law 1 1126 ls st H) (fun x y => x + y) st) ∧
  (∀ ls st H, aGo cl (some (L, xs)) cd_law 1 1126 ls st H = aIald (fun st => aGo cl (some (L, xs)) cd_law 1 1127 ls st H) (some (L, xs)) H st) ∧
  (∀ ls st H, aGo cl (some (L, xs)) cd_law 1 1127 ls st H = aRLoad (fun st => aGo cl (some (L, xs)) cd_law 1 1128 ls st H) ls 0 st) ∧
  (∀ ls st H, aGo cl (some (L, xs)) cd_law 1 1128 ls st H = aILoad (fun st => aGo cl (some (L, xs)) cd_law 1 1129 ls st H) ls 3 st) ∧
  (∀ ls st H, aGo cl (some (L, xs)) cd_law 1 1129 ls st H = aGo cl (some (L, xs)) cd_law 1 1130 ls (.int 3 :: st) H) ∧
  (∀ ls st H, aGo cl (some (L, xs)) cd_law 1 1130 ls st H = aBin (fun st => aGo cl (some (L, xs)) cd_law 1 1131 ls st H) (fun x y => x + y) st) ∧
  (∀ ls st H, aGo cl (some (L, xs)) cd_law 1 1131 ls st H = aIald (fun st => aGo cl (some (L, xs)) cd_law 1 1132 ls st H) (some (L, xs)) H st) ∧
  (∀ ls st H, aGo cl (some (L, xs)) cd_law 1 1132 ls st H = aCallV (fun st H => aGo cl (some (L, xs)) cd_law 1 1135 ls st H) cl 92 3 7 H st) ∧
  (∀ ls st H, aGo cl (some (L, xs)) cd_law 1 1135 ls st H = aRLoad (fun st => aGo cl (some (L, xs)) cd_law 1 1136 ls st H) ls 2 st) ∧
  (∀ ls st H, aGo cl (some (L, xs)) cd_law 1 1136 ls st H = aRLoad (fun st => aGo cl (some (L, xs)) cd_law 1 1137 ls st H) ls 0 st) ∧
  (∀ ls st H, aGo cl (some (L, xs)) cd_law 1 1137 ls st H = aILoad (fun st => aGo cl (some (L, xs)) cd_law 1 1138 ls st H) ls 3 st) ∧
  (∀ ls st H, aGo cl (some (L, xs)) cd_law 1 1138 ls st H = aGo cl (some (L, xs)) cd_law 1 1139 ls (.int 1 :: st) H) ∧
  (∀ ls st H, aGo cl (some (L, xs)) cd_law 1 1139 ls st H = aBin (fun st => aGo cl (some (L, xs)) cd_law 1 1140 ls st H) (fun x y => x + y) st) ∧
  (∀ ls st H, aGo cl (some (L, xs)) cd_law 1 1140 ls st H = aIald (fun st => aGo cl (some (L, xs)) cd_law 1 1141 ls st H) (some (L, xs)) H st) ∧
  (∀ ls st H, aGo cl (some (L, xs)) cd_law 1 1141 ls st H = aRLoad (fun st => aGo cl (some (L, xs)) cd_law 1 1142 ls st H) ls 0 st) ∧
  (∀ ls st H, aGo cl (some (L, xs)) cd_law 1 1142 ls st H = aILoad (fun st => aGo cl (some (L, xs)) cd_law 1 1143 ls st H) ls 3 st) ∧
  (∀ ls st H, aGo cl (some (L, xs)) cd_law 1 1143 ls st H = aGo cl (some (L, xs)) cd_law 1 1144 ls (.int 2 :: st) H) ∧
  (∀ ls st H, aGo cl (some (L, xs)) cd_law 1 1144 ls st H = aBin (fun st => aGo cl (some (L, xs)) cd_law 1 1145 ls st H) (fun x y => x + y) st) ∧
  (∀ ls st H, aGo cl (some (L, xs)) cd_law 1 1145 ls st H = aIald (fun st => aGo cl (some (L, xs)) cd_law 1 1146 ls st H) (some (L, xs)) H st) ∧
  (∀ ls st H, aGo cl (some (L, xs)) cd_law 1 1146 ls st H = aRLoad (fun st => aGo cl (some (L, xs)) cd_law 1 1147 ls st H) ls 0 st) ∧
  (∀ ls st H, aGo cl (some (L, xs)) cd_law 1 1147 ls st H = aILoad (fun st => aGo cl (some (L, xs)) cd_law 1 1148 ls st H) ls 3 st) ∧
  (∀ ls st H, aGo cl (some (L, xs)) cd_law 1 1148 ls st H = aGo cl (some (L, xs)) cd_law 1 1149 ls (.int 3 :: st) H) ∧
  (∀ ls st H, aGo cl (some (L, xs)) cd_law 1 1149 ls st H = aBin (fun st => aGo cl (some (L, xs)) cd_law 1 1150 ls st H) (fun x y => x + y) st) ∧
  (∀ ls st H, aGo cl (some (L, xs)) cd_law 1 1150 ls st H = aIald (fun st => aGo cl (some (L, xs)) cd_law 1 1151 ls st H) (some (L, xs)) H st) ∧
  (∀ ls st H, aGo cl (some (L, xs)) cd_law 1 1151 ls st H = aCallV (fun st H => aGo cl (some (L, xs)) cd_law 1 1154 ls st H) cl 204 3 8 H st) ∧
  (∀ ls st H, aGo cl (some (L, xs)) cd_law 1 1154 ls st H = aIc (fun p st => aGo cl (some (L, xs)) cd_law 1 p ls st H) .eq 1485 1157 st) :=
  ⟨fun _ _ _ => (aGo_s rfl).trans rfl, fun _ _ _ => (aGo_s rfl).trans rfl, fun _ _ _ => (aGo_s rfl).trans rfl, fun _ _ _ => (aGo_s rfl).trans rfl, fun _ _ _ => (aGo_s rfl).trans rfl, fun _ _ _ => (aGo_s rfl).trans rfl, fun _ _ _ => (aGo_s rfl).trans rfl, fun _ _ _ => (aGo_s rfl).trans rfl, fun _ _ _ => (aGo_s rfl).trans rfl, fun _ _ _ => (aGo_s rfl).trans rfl, fun _ _ _ => (aGo_s rfl).trans rfl, fun _ _ _ => (aGo_s rfl).trans rfl, fun _ _ _ => (aGo_s rfl).trans rfl, fun _ _ _ => (aGo_s rfl).trans rfl, fun _ _ _ => (aGo_s rfl).trans rfl, fun _ _ _ => (aGo_s rfl).trans rfl, fun _ _ _ => (aGo_s rfl).trans rfl, fun _ _ _ => (aGo_s rfl).trans rfl, fun _ _ _ => (aGo_s rfl).trans rfl, fun _ _ _ => (aGo_s rfl).trans rfl, fun _ _ _ => (aGo_s rfl).trans rfl, fun _ _ _ => (aGo_s rfl).trans rfl, fun _ _ _ => (aGo_s rfl).trans rfl, fun _ _ _ => (aGo_s rfl).trans rfl, fun _ _ _ => (aGo_s rfl).trans rfl, fun _ _ _ => (aGo_s rfl).trans rfl, fun _ _ _ => (aGo_s rfl).trans rfl, fun _ _ _ => (aGo_s rfl).trans rfl, fun _ _ _ => (aGo_s rfl).trans rfl, fun _ _ _ => (aGo_s rfl).trans rfl, fun _ _ _ => (aGo_s rfl).trans rfl, fun _ _ _ => (aGo_s rfl).trans rfl, fun _ _ _ => (aGo_s rfl).trans rfl, fun _ _ _ => (aGo_s rfl).trans rfl, fun _ _ _ => (aGo_s rfl).trans rfl⟩
theorem lw_28 {cl : Nat → List Value → aH → aRs} {L i : Nat} {xs : Nat → Int32} {I I1 I2 : Nat → Nat → Int32} {x y x1 y1 : Option Nat} {v : Int32} (hi : i + 6 ≤ L) (hL : L ≤ 3072) (h1 : cl 92 [.ref 0, .int (xs (i + 1)), .int (xs (i + 2)), .int (xs (i + 3))] (HH I x y) = some (some (.int v), HH I1 x1 y1)) (h2 : cl 204 [.ref 113, .int (xs (i + 1)), .int (xs (i + 2)), .int (xs (i + 3))] (HH I1 x1 y1) = some (some (.int v), HH I2 x1 y1)) : aGo cl (some (L, xs)) cd_law 1 1116 (lwLs i) [] (HH I x y) = aGo cl (some (L, xs)) cd_law 1 1485 (lwLs i) [] (HH I2 x1 y1) := by
  simp [w_28, aILoad, aRLoad, aLLoad, aIStore, aRStore, aPush, aBin, aBinL, aShL, aUn, aIf, aIc, aGet, aPut, aBald, aAald, aIast, aBast, aAast, aAlen, aCopy, aCallV, aCallC, aCallI, aRet, aCat, aMax, aMin, aDiv, aRem, aI2l, aL2i, aNul, aSwS, aSw, aInc, aDup, aDup2, aPop1, aIret, aAret, aVret, aLen, aFk, aFT, Value.category, c_sh, m_sh, lw_l hi hL, h1, h2]
theorem w_29 {cl : Nat → List Value → aH → aRs} {L : Nat} {xs : Nat → Int32} : (∀ ls st H, aGo cl (some (L, xs)) cd_law 1 1159 ls st H = aRLoad (fun st => aGo cl (some (L, xs)) cd_law 1 1160 ls st H) ls 1 st) ∧
  (∀ ls st H, aGo cl (some (L, xs)) cd_law 1 1160 ls st H = aRLoad (fun st => aGo cl (some (L, xs)) cd_law 1 1161 ls st H) ls 0 st) ∧
  (∀ ls st H, aGo cl (some (L, xs)) cd_law 1 1161 ls st H = aILoad (fun st => aGo cl (some (L, xs)) cd_law 1 1162 ls st H) ls 3 st) ∧
  (∀ ls st H, aGo cl (some (L, xs)) cd_law 1 1162 ls st H = aGo cl (some (L, xs)) cd_law 1 1163 ls (.int 1 :: st) H) ∧
  (∀ ls st H, aGo cl (some (L, xs)) cd_law 1 1163 ls st H = aBin (fun st => aGo cl (some (L, xs)) cd_law 1 1164 ls st H) (fun x y => x + y) st) ∧
  (∀ ls st H, aGo cl (some (L, xs)) cd_law 1 1164 ls st H = aIald (fun st => aGo cl (some (L, xs)) cd_law 1 1165 ls st H) (some (L, xs)) H st) ∧
  (∀ ls st H, aGo cl (some (L, xs)) cd_law 1 1165 ls st H = aCallV (fun st H => aGo cl (some (L, xs)) cd_law 1 1168 ls st H) cl 93 1 7 H st) ∧
  (∀ ls st H, aGo cl (some (L, xs)) cd_law 1 1168 ls st H = aRLoad (fun st => aGo cl (some (L, xs)) cd_law 1 1169 ls st H) ls 2 st) ∧
  (∀ ls st H, aGo cl (some (L, xs)) cd_law 1 1169 ls st H = aRLoad (fun st => aGo cl (some (L, xs)) cd_law 1 1170 ls st H) ls 0 st) ∧
  (∀ ls st H, aGo cl (some (L, xs)) cd_law 1 1170 ls st H = aILoad (fun st => aGo cl (some (L, xs)) cd_law 1 1171 ls st H) ls 3 st) ∧
  (∀ ls st H, aGo cl (some (L, xs)) cd_law 1 1171 ls st H = aGo cl (some (L, xs)) cd_law 1 1172 ls (.int 1 :: st) H) ∧
  (∀ ls st H, aGo cl (some (L, xs)) cd_law 1 1172 ls st H = aBin (fun st => aGo cl (some (L, xs)) cd_law 1 1173 ls st H) (fun x y => x + y) st) ∧
  (∀ ls st H, aGo cl (some (L, xs)) cd_law 1 1173 ls st H = aIald (fun st => aGo cl (some (L, xs)) cd_law 1 1174 ls st H) (some (L, xs)) H st) ∧
  (∀ ls st H, aGo cl (some (L, xs)) cd_law 1 1174 ls st H = aCallV (fun st H => aGo cl (some (L, xs)) cd_law 1 1177 ls st H) cl 205 1 8 H st) ∧
  (∀ ls st H, aGo cl (some (L, xs)) cd_law 1 1177 ls st H = aIc (fun p st => aGo cl (some (L, xs)) cd_law 1 p ls st H) .eq 1485 1180 st) :=
  ⟨fun _ _ _ => (aGo_s rfl).trans rfl, fun _ _ _ => (aGo_s rfl).trans rfl, fun _ _ _ => (aGo_s rfl).trans rfl, fun _ _ _ => (aGo_s rfl).trans rfl, fun _ _ _ => (aGo_s rfl).trans rfl, fun _ _ _ => (aGo_s rfl).trans rfl, fun _ _ _ => (aGo_s rfl).trans rfl, fun _ _ _ => (aGo_s rfl).trans rfl, fun _ _ _ => (aGo_s rfl).trans rfl, fun _ _ _ => (aGo_s rfl).trans rfl, fun _ _ _ => (aGo_s rfl).trans rfl, fun _ _ _ => (aGo_s rfl).trans rfl, fun _ _ _ => (aGo_s rfl).trans rfl, fun _ _ _ => (aGo_s rfl).trans rfl, fun _ _ _ => (aGo_s rfl).trans rfl⟩
theorem lw_29 {cl : Nat → List Value → aH → aRs} {L i : Nat} {xs : Nat → Int32} {I I1 I2 : Nat → Nat → Int32} {x y x1 y1 : Option Nat} {v : Int32} (hi : i + 6 ≤ L) (hL : L ≤ 3072) (h1 : cl 93 [.ref 0, .int (xs (i + 1))] (HH I x y) = some (some (.int v), HH I1 x1 y1)) (h2 : cl 205 [.ref 113, .int (xs (i + 1))] (HH I1 x1 y1) = some (some (.int v), HH I2 x1 y1)) : aGo cl (some (L, xs)) cd_law 1 1159 (lwLs i) [] (HH I x y) = aGo cl (some (L, xs)) cd_law 1 1485 (lwLs i) [] (HH I2 x1 y1) := by
  simp [w_29, aILoad, aRLoad, aLLoad, aIStore, aRStore, aPush, aBin, aBinL, aShL, aUn, aIf, aIc, aGet, aPut, aBald, aAald, aIast, aBast, aAast, aAlen, aCopy, aCallV, aCallC, aCallI, aRet, aCat, aMax, aMin, aDiv, aRem, aI2l, aL2i, aNul, aSwS, aSw, aInc, aDup, aDup2, aPop1, aIret, aAret, aVret, aLen, aFk, aFT, Value.category, c_sh, m_sh, lw_l hi hL, h1, h2]
theorem w_30 {cl : Nat → List Value → aH → aRs} {L : Nat} {xs : Nat → Int32} : (∀ ls st H, aGo cl (some (L, xs)) cd_law 1 1182 ls st H = aRLoad (fun st => aGo cl (some (L, xs)) cd_law 1 1183 ls st H) ls 1 st) ∧
  (∀ ls st H, aGo cl (some (L, xs)) cd_law 1 1183 ls st H = aRLoad (fun st => aGo cl (some (L, xs)) cd_law 1 1184 ls st H) ls 0 st) ∧
  (∀ ls st H, aGo cl (some (L, xs)) cd_law 1 1184 ls st H = aILoad (fun st => aGo cl (some (L, xs)) cd_law 1 1185 ls st H) ls 3 st) ∧
  (∀ ls st H, aGo cl (some (L, xs)) cd_law 1 1185 ls st H = aGo cl (some (L, xs)) cd_law 1 1186 ls (.int 1 :: st) H) ∧
  (∀ ls st H, aGo cl (some (L, xs)) cd_law 1 1186 ls st H = aBin (fun st => aGo cl (some (L, xs)) cd_law 1 1187 ls st H) (fun x y => x + y) st) ∧
  (∀ ls st H, aGo cl (some (L, xs)) cd_law 1 1187 ls st H = aIald (fun st => aGo cl (some (L, xs)) cd_law 1 1188 ls st H) (some (L, xs)) H st) ∧
  (∀ ls st H, aGo cl (some (L, xs)) cd_law 1 1188 ls st H = aRLoad (fun st => aGo cl (some (L, xs)) cd_law 1 1189 ls st H) ls 0 st) ∧
  (∀ ls st H, aGo cl (some (L, xs)) cd_law 1 1189 ls st H = aILoad (fun st => aGo cl (some (L, xs)) cd_law 1 1190 ls st H) ls 3 st) ∧
  (∀ ls st H, aGo cl (some (L, xs)) cd_law 1 1190 ls st H = aGo cl (some (L, xs)) cd_law 1 1191 ls (.int 2 :: st) H) ∧
  (∀ ls st H, aGo cl (some (L, xs)) cd_law 1 1191 ls st H = aBin (fun st => aGo cl (some (L, xs)) cd_law 1 1192 ls st H) (fun x y => x + y) st) ∧
  (∀ ls st H, aGo cl (some (L, xs)) cd_law 1 1192 ls st H = aIald (fun st => aGo cl (some (L, xs)) cd_law 1 1193 ls st H) (some (L, xs)) H st) ∧
  (∀ ls st H, aGo cl (some (L, xs)) cd_law 1 1193 ls st H = aRLoad (fun st => aGo cl (some (L, xs)) cd_law 1 1194 ls st H) ls 0 st) ∧
  (∀ ls st H, aGo cl (some (L, xs)) cd_law 1 1194 ls st H = aILoad (fun st => aGo cl (some (L, xs)) cd_law 1 1195 ls st H) ls 3 st) ∧
  (∀ ls st H, aGo cl (some (L, xs)) cd_law 1 1195 ls st H = aGo cl (some (L, xs)) cd_law 1 1196 ls (.int 3 :: st) H) ∧
  (∀ ls st H, aGo cl (some (L, xs)) cd_law 1 1196 ls st H = aBin (fun st => aGo cl (some (L, xs)) cd_law 1 1197 ls st H) (fun x y => x + y) st) ∧
  (∀ ls st H, aGo cl (some (L, xs)) cd_law 1 1197 ls st H = aIald (fun st => aGo cl (some (L, xs)) cd_law 1 1198 ls st H) (some (L, xs)) H st) ∧
  (∀ ls st H, aGo cl (some (L, xs)) cd_law 1 1198 ls st H = aCallV (fun st H => aGo cl (some (L, xs)) cd_law 1 1201 ls st H) cl 94 3 7 H st) ∧
  (∀ ls st H, aGo cl (some (L, xs)) cd_law 1 1201 ls st H = aRLoad (fun st => aGo cl (some (L, xs)) cd_law 1 1202 ls st H) ls 2 st) ∧
  (∀ ls st H, aGo cl (some (L, xs)) cd_law 1 1202 ls st H = aRLoad (fun st => aGo cl (some (L, xs)) cd_law 1 1203 ls st H) ls 0 st) ∧
  (∀ ls st H, aGo cl (some (L, xs)) cd_law 1 1203 ls st H = aILoad (fun st => aGo cl (some (L, xs)) cd_law 1 1204 ls st H) ls 3 st) ∧
  (∀ ls st H, aGo cl (some (L, xs)) cd_law 1 1204 ls st H = aGo cl (some (L, xs)) cd_law 1 1205 ls (.int 1 :: st) H) ∧
  (∀ ls st H, aGo cl (some (L, xs)) cd_law 1 1205 ls st H = aBin (fun st => aGo cl (some (L, xs)) cd_law 1 1206 ls st H) (fun x y => x + y) st) ∧
  (∀ ls st H, aGo cl (some (L, xs)) cd_law 1 1206 ls st H = aIald (fun st => aGo cl (some (L, xs)) cd_law 1 1207 ls st H) (some (L, xs)) H st) ∧
  (∀ ls st H, aGo cl (some (L, xs)) cd_law 1 1207 ls st H = aRLoad (fun st => aGo cl (some (L, xs)) cd_law 1 1208 ls st H) ls 0 st) ∧
  (∀ ls st H, aGo cl (some (L, xs)) cd_law 1 1208 ls st H = aILoad (fun st => aGo cl (some (L, xs)) cd_law 1 1209 ls st H) ls 3 st) ∧
  (∀ ls st H, aGo cl (some (L, xs)) cd_law 1 1209 ls st H = aGo cl (some (L, xs)) cd_law 1 1210 ls (.int 2 :: st) H) ∧
  (∀ ls st H, aGo cl (some (L, xs)) cd_law 1 1210 ls st H = aBin (fun st => aGo cl (some (L, xs)) cd_law 1 1211 ls st H) (fun x y => x + y) st) ∧
  (∀ ls st H, aGo cl (some (L, xs)) cd_law 1 1211 ls st H = aIald (fun st => aGo cl (some (L, xs)) cd_law 1 1212 ls st H) (some (L, xs)) H st) ∧
  (∀ ls st H, aGo cl (some (L, xs)) cd_law 1 1212 ls st H = aRLoad (fun st => aGo cl (some (L, xs)) cd_law 1 1213 ls st H) ls 0 st) ∧
  (∀ ls st H, aGo cl (some (L, xs)) cd_law 1 1213 ls st H = aILoad (fun st => aGo cl (some (L, xs)) cd_law 1 1214 ls st H) ls 3 st) ∧
  (∀ ls st H, aGo cl (some (L, xs)) cd_law 1 1214 ls st H = aGo cl (some (L, xs)) cd_law 1 1215 ls (.int 3 :: st) H) ∧
  (∀ ls st H, aGo cl (some (L, xs)) cd_law 1 1215 ls st H = aBin (fun st => aGo cl (some (L, xs)) cd_law 1 1216 ls st H) (fun x y => x + y) st) ∧
  (∀ ls st H, aGo cl (some (L, xs)) cd_law 1 1216 ls st H = aIald (fun st => aGo cl (some (L, xs)) cd_law 1 1217 ls st H) (some (L, xs)) H st) ∧
  (∀ ls st H, aGo cl (some (L, xs)) cd_law 1 1217 ls st H = aCallV (fun st H => aGo cl (some (L, xs)) cd_law 1 1220 ls st H) cl 207 3 8 H st) ∧
  (∀ ls st H, aGo cl (some (L, xs)) cd_law 1 1220 ls st H = aIc (fun p st => aGo cl (some (L, xs)) cd_law 1 p ls st H) .eq 1485 1223 st) :=
  ⟨fun _ _ _ => (aGo_s rfl).trans rfl, fun _ _ _ => (aGo_s rfl).trans rfl, fun _ _ _ => (aGo_s rfl).trans rfl, fun _ _ _ => (aGo_s rfl).trans rfl, fun _ _ _ => (aGo_s rfl).trans rfl, fun _ _ _ => (aGo_s rfl).trans rfl, fun _ _ _ => (aGo_s rfl).trans rfl, fun _ _ _ => (aGo_s rfl).trans rfl, fun _ _ _ => (aGo_s rfl).trans rfl, fun _ _ _ => (aGo_s rfl).trans rfl, fun _ _ _ => (aGo_s rfl).trans rfl, fun _ _ _ => (aGo_s rfl).trans rfl, fun _ _ _ => (aGo_s rfl).trans rfl, fun _ _ _ => (aGo_s rfl).trans rfl, fun _ _ _ => (aGo_s rfl).trans rfl, fun _ _ _ => (aGo_s rfl).trans rfl, fun _ _ _ => (aGo_s rfl).trans rfl, fun _ _ _ => (aGo_s rfl).trans rfl, fun _ _ _ => (aGo_s rfl).trans rfl, fun _ _ _ => (aGo_s rfl).trans rfl, fun _ _ _ => (aGo_s rfl).trans rfl, fun _ _ _ => (aGo_s rfl).trans rfl, fun _ _ _ => (aGo_s rfl).trans rfl, fun _ _ _ => (aGo_s rfl).trans rfl, fun _ _ _ => (aGo_s rfl).trans rfl, fun _ _ _ => (aGo_s rfl).trans rfl, fun _ _ _ => (aGo_s rfl).trans rfl, fun _ _ _ => (aGo_s rfl).trans rfl, fun _ _ _ => (aGo_s rfl).trans rfl, fun _ _ _ => (aGo_s rfl).trans rfl, fun _ _ _ => (aGo_s rfl).trans rfl, fun _ _ _ => (aGo_s rfl).trans rfl, fun _ _ _ => (aGo_s rfl).trans rfl, fun _ _ _ => (aGo_s rfl).trans rfl, fun _ _ _ => (aGo_s rfl).trans rfl⟩
theorem lw_30 {cl : Nat → List Value → aH → aRs} {L i : Nat} {xs : Nat → Int32} {I I1 I2 : Nat → Nat → Int32} {x y x1 y1 : Option Nat} {v : Int32} (hi : i + 6 ≤ L) (hL : L ≤ 3072) (h1 : cl 94 [.ref 0, .int (xs (i + 1)), .int (xs (i + 2)), .int (xs (i + 3))] (HH I x y) = some (some (.int v), HH I1 x1 y1)) (h2 : cl 207 [.ref 113, .int (xs (i + 1)), .int (xs (i + 2)), .int (xs (i + 3))] (HH I1 x1 y1) = some (some (.int v), HH I2 x1 y1)) : aGo cl (some (L, xs)) cd_law 1 1182 (lwLs i) [] (HH I x y) = aGo cl (some (L, xs)) cd_law 1 1485 (lwLs i) [] (HH I2 x1 y1) := by
  simp [w_30, aILoad, aRLoad, aLLoad, aIStore, aRStore, aPush, aBin, aBinL, aShL, aUn, aIf, aIc, aGet, aPut, aBald, aAald, aIast, aBast, aAast, aAlen, aCopy, aCallV, aCallC, aCallI, aRet, aCat, aMax, aMin, aDiv, aRem, aI2l, aL2i, aNul, aSwS, aSw, aInc, aDup, aDup2, aPop1, aIret, aAret, aVret, aLen, aFk, aFT, Value.category, c_sh, m_sh, lw_l hi hL, h1, h2]
theorem w_31 {cl : Nat → List Value → aH → aRs} {L : Nat} {xs : Nat → Int32} : (∀ ls st H, aGo cl (some (L, xs)) cd_law 1 1225 ls st H = aRLoad (fun st => aGo cl (some (L, xs)) cd_law 1 1226 ls st H) ls 1 st) ∧
  (∀ ls st H, aGo cl (some (L, xs)) cd_law 1 1226 ls st H = aRLoad (fun st => aGo cl (some (L, xs)) cd_law 1 1227 ls st H) ls 0 st) ∧
  (∀ ls st H, aGo cl (some (L, xs)) cd_law 1 1227 ls st H = aILoad (fun st => aGo cl (some (L, xs)) cd_law 1 1228 ls st H) ls 3 st) ∧
  (∀ ls st H, aGo cl (some (L, xs)) cd_law 1 1228 ls st H = aGo cl (some (L, xs)) cd_law 1 1229 ls (.int 1 :: st) H) ∧
  (∀ ls st H, aGo cl (some (L, xs)) cd_law 1 1229 ls st H = aBin (fun st => aGo cl (some (L, xs)) cd_law 1 1230 ls st H) (fun x y => x + y) st) ∧
  (∀ ls st H, aGo cl (some (L, xs)) cd_law 1 1230 ls st H = aIald (fun st => aGo cl (some (L, xs)) cd_law 1 1231 ls st H) (some (L, xs)) H st) ∧
  (∀ ls st H, aGo cl (some (L, xs)) cd_law 1 1231 ls st H = aRLoad (fun st => aGo cl (some (L, xs)) cd_law 1 1232 ls st H) ls 0 st) ∧
  (∀ ls st H, aGo cl (some (L, xs)) cd_law 1 1232 ls st H = aILoad (fun st => aGo cl (some (L, xs)) cd_law 1 1233 ls st H) ls 3 st) ∧
  (∀ ls st H, aGo cl (some (L, xs)) cd_law 1 1233 ls st H = aGo cl (some (L, xs)) cd_law 1 1234 ls (.int 2 :: st) H) ∧
  (∀ ls st H, aGo cl (some (L, xs)) cd_law 1 1234 ls st H = aBin (fun st => aGo cl (some (L, xs)) cd_law 1 1235 ls st H) (fun x y => x + y) st) ∧
  (∀ ls st H, aGo cl (some (L, xs)) cd_law 1 1235 ls st H = aIald (fun st => aGo cl (some (L, xs)) cd_law 1 1236 ls st H) (some (L, xs)) H st) ∧
  (∀ ls st H, aGo cl (some (L, xs)) cd_law 1 1236 ls st H = aRLoad (fun st => aGo cl (some (L, xs)) cd_law 1 1237 ls st H) ls 0 st) ∧
  (∀ ls st H, aGo cl (some (L, xs)) cd_law 1 1237 ls st H = aILoad (fun st => aGo cl (some (L, xs)) cd_law 1 1238 ls st H) ls 3 st) ∧
  (∀ ls st H, aGo cl (some (L, xs)) cd_law 1 1238 ls st H = aGo cl (some (L, xs)) cd_law 1 1239 ls (.int 3 :: st) H) ∧
  (∀ ls st H, aGo cl (some (L, xs)) cd_law 1 1239 ls st H = aBin (fun st => aGo cl (some (L, xs)) cd_law 1 1240 ls st H) (fun x y => x + y) st) ∧
  (∀ ls st H, aGo cl (some (L, xs)) cd_law 1 1240 ls st H = aIald (fun st => aGo cl (some (L, xs)) cd_law 1 1241 ls st H) (some (L, xs)) H st) ∧
  (∀ ls st H, aGo cl (some (L, xs)) cd_law 1 1241 ls st H = aCallV (fun st H => aGo cl (some (L, xs)) cd_law 1 1244 ls st H) cl 95 3 7 H st) ∧
  (∀ ls st H, aGo cl (some (L, xs)) cd_law 1 1244 ls st H = aRLoad (fun st => aGo cl (some (L, xs)) cd_law 1 1245 ls st H) ls 2 st) ∧
  (∀ ls st H, aGo cl (some (L, xs)) cd_law 1 1245 ls st H = aRLoad (fun st => aGo cl (some (L, xs)) cd_law 1 1246 ls st H) ls 0 st) ∧
  (∀ ls st H, aGo cl (some (L, xs)) cd_law 1 1246 ls st H = aILoad (fun st => aGo cl (some (L, xs)) cd_law 1 1247 ls st H) ls 3 st) ∧
  (∀ ls st H, aGo cl (some (L, xs)) cd_law 1 1247 ls st H = aGo cl (some (L, xs)) cd_law 1 1248 ls (.int 1 :: st) H) ∧
  (∀ ls st H, aGo cl (some (L, xs)) cd_law 1 1248 ls st H = aBin (fun st => aGo cl (some (L, xs)) cd_law 1 1249 ls st H) (fun x y => x + y) st) ∧
  (∀ ls st H, aGo cl (some (L, xs)) cd_law 1 1249 ls st H = aIald (fun st => aGo cl (some (L, xs)) cd_law 1 1250 ls st H) (some (L, xs)) H st) ∧
  (∀ ls st H, aGo cl (some (L, xs)) cd_law 1 1250 ls st H = aRLoad (fun st => aGo cl (some (L, xs)) cd_law 1 1251 ls st H) ls 0 st) ∧
  (∀ ls st H, aGo cl (some (L, xs)) cd_law 1 1251 ls st H = aILoad (fun st => aGo cl (some (L, xs)) cd_law 1 1252 ls st H) ls 3 st) ∧
  (∀ ls st H, aGo cl (some (L, xs)) cd_law 1 1252 ls st H = aGo cl (some (L, xs)) cd_law 1 1253 ls (.int 2 :: st) H) ∧
  (∀ ls st H, aGo cl (some (L, xs)) cd_law 1 1253 ls st H = aBin (fun st => aGo cl (some (L, xs)) cd_law 1 1254 ls st H) (fun x y => x + y) st) ∧
  (∀ ls st H, aGo cl (some (L, xs)) cd_law 1 1254 ls st H = aIald (fun st => aGo cl (some (L, xs)) cd_law 1 1255 ls st H) (some (L, xs)) H st) ∧
  (∀ ls st H, aGo cl (some (L, xs)) cd_law 1 1255 ls st H = aRLoad (fun st => aGo cl (some (L, xs)) cd_law 1 1256 ls st H) ls 0 st) ∧
  (∀ ls st H, aGo cl (some (L, xs)) cd_law 1 1256 ls st H = aILoad (fun st => aGo cl (some (L, xs)) cd_law 1 1257 ls st H) ls 3 st) ∧
  (∀ ls st H, aGo cl (some (L, xs)) cd_law 1 1257 ls st H = aGo cl (some (L, xs)) cd_law 1 1258 ls (.int 3 :: st) H) ∧
  (∀ ls st H, aGo cl (some (L, xs)) cd_law 1 1258 ls st H = aBin (fun st => aGo cl (some (L, xs)) cd_law 1 1259 ls st H) (fun x y => x + y) st) ∧
  (∀ ls st H, aGo cl (some (L, xs)) cd_law 1 1259 ls st H = aIald (fun st => aGo cl (some (L, xs)) cd_law 1 1260 ls st H) (some (L, xs)) H st) ∧
  (∀ ls st H, aGo cl (some (L, xs)) cd_law 1 1260 ls st H = aCallV (fun st H => aGo cl (some (L, xs)) cd_law 1 1263 ls st H) cl 208 3 8 H st) ∧
  (∀ ls st H, aGo cl (some (L, xs)) cd_law 1 1263 ls st H = aIc (fun p st => aGo cl (some (L, xs)) cd_law 1 p ls st H) .eq 1485 1266 st) :=
  ⟨fun _ _ _ => (aGo_s rfl).trans rfl, fun _ _ _ => (aGo_s rfl).trans rfl, fun _ _ _ => (aGo_s rfl).trans rfl, fun _ _ _ => (aGo_s rfl).trans rfl, fun _ _ _ => (aGo_s rfl).trans rfl, fun _ _ _ => (aGo_s rfl).trans rfl, fun _ _ _ => (aGo_s rfl).trans rfl, fun _ _ _ => (aGo_s rfl).trans rfl, fun _ _ _ => (aGo_s rfl).trans rfl, fun _ _ _ => (aGo_s rfl).trans rfl, fun _ _ _ => (aGo_s rfl).trans rfl, fun _ _ _ => (aGo_s rfl).trans rfl, fun _ _ _ => (aGo_s rfl).trans rfl, fun _ _ _ => (aGo_s rfl).trans rfl, fun _ _ _ => (aGo_s rfl).trans rfl, fun _ _ _ => (aGo_s rfl).trans rfl, fun _ _ _ => (aGo_s rfl).trans rfl, fun _ _ _ => (aGo_s rfl).trans rfl, fun _ _ _ => (aGo_s rfl).trans rfl, fun _ _ _ => (aGo_s rfl).trans rfl, fun _ _ _ => (aGo_s rfl).trans rfl, fun _ _ _ => (aGo_s rfl).trans rfl, fun _ _ _ => (aGo_s rfl).trans rfl, fun _ _ _ => (aGo_s rfl).trans rfl, fun _ _ _ => (aGo_s rfl).trans rfl, fun _ _ _ => (aGo_s rfl).trans rfl, fun _ _ _ => (aGo_s rfl).trans rfl, fun _ _ _ => (aGo_s rfl).trans rfl, fun _ _ _ => (aGo_s rfl).trans rfl, fun _ _ _ => (aGo_s rfl).trans rfl, fun _ _ _ => (aGo_s rfl).trans rfl, fun _ _ _ => (aGo_s rfl).trans rfl, fun _ _ _ => (aGo_s rfl).trans rfl, fun _ _ _ => (aGo_s rfl).trans rfl, fun _ _ _ => (aGo_s rfl).trans rfl⟩
theorem lw_31 {cl : Nat → List Value → aH → aRs} {L i : Nat} {xs : Nat → Int32} {I I1 I2 : Nat → Nat → Int32} {x y x1 y1 : Option Nat} {v : Int32} (hi : i + 6 ≤ L) (hL : L ≤ 3072) (h1 : cl 95 [.ref 0, .int (xs (i + 1)), .int (xs (i + 2)), .int (xs (i + 3))] (HH I x y) = some (some (.int v), HH I1 x1 y1)) (h2 : cl 208 [.ref 113, .int (xs (i + 1)), .int (xs (i + 2)), .int (xs (i + 3))] (HH I1 x1 y1) = some (some (.int v), HH I2 x1 y1)) : aGo cl (some (L, xs)) cd_law 1 1225 (lwLs i) [] (HH I x y) = aGo cl (some (L, xs)) cd_law 1 1485 (lwLs i) [] (HH I2 x1 y1) := by
  simp [w_31, aILoad, aRLoad, aLLoad, aIStore, aRStore, aPush, aBin, aBinL, aShL, aUn, aIf, aIc, aGet, aPut, aBald, aAald, aIast, aBast, aAast, aAlen, aCopy, aCallV, aCallC, aCallI, aRet, aCat, aMax, aMin, aDiv, aRem, aI2l, aL2i, aNul, aSwS, aSw, aInc, aDup, aDup2, aPop1, aIret, aAret, aVret, aLen, aFk, aFT, Value.category, c_sh, m_sh, lw_l hi hL, h1, h2]
theorem w_32 {cl : Nat → List Value → aH → aRs} {L : Nat} {xs : Nat → Int32} : (∀ ls st H, aGo cl (some (L, xs)) cd_law 1 1268 ls st H = aRLoad (fun st => aGo cl (some (L, xs)) cd_law 1 1269 ls st H) ls 1 st) ∧
  (∀ ls st H, aGo cl (some (L, xs)) cd_law 1 1269 ls st H = aRLoad (fun st => aGo cl (some (L, xs)) cd_law 1 1270 ls st H) ls 0 st) ∧
  (∀ ls st H, aGo cl (some (L, xs)) cd_law 1 1270 ls st H = aILoad (fun st => aGo cl (some (L, xs)) cd_law 1 1271 ls st H) ls 3 st) ∧
  (∀ ls st H, aGo cl (some (L, xs)) cd_law 1 1271 ls st H = aGo cl (some (L, xs)) cd_law 1 1272 ls (.int 1 :: st) H) ∧
  (∀ ls st H, aGo cl (some (L, xs)) cd_law 1 1272 ls st H = aBin (fun st => aGo cl (some (L, xs)) cd_law 1 1273 ls st H) (fun x y => x + y) st) ∧
  (∀ ls st H, aGo cl (some (L, xs)) cd_law 1 1273 ls st H = aIald (fun st => aGo cl (some (L, xs)) cd_law 1 1274 ls st H) (some (L, xs)) H st) ∧
  (∀ ls st H, aGo cl (some (L, xs)) cd_law 1 1274 ls st H = aRLoad (fun st => aGo cl (some (L, xs)) cd_law 1 1275 ls st H) ls 0 st) ∧
  (∀ ls st H, aGo cl (some (L, xs)) cd_law 1 1275 ls st H = aILoad (fun st => aGo cl (some (L, xs)) cd_law 1 1276 ls st H) ls 3 st) ∧
  (∀ ls st H, aGo cl (some (L, xs)) cd_law 1 1276 ls st H = aGo cl (some (L, xs)) cd_law 1 1277 ls (.int 2 :: st) H) ∧
  (∀ ls st H, aGo cl (some (L, xs)) cd_law 1 1277 ls st H = aBin (fun st => aGo cl (some (L, xs)) cd_law 1 1278 ls st H) (fun x y => x + y) st) ∧
  (∀ ls st H, aGo cl (some (L, xs)) cd_law 1 1278 ls st H = aIald (fun st => aGo cl (some (L, xs)) cd_law 1 1279 ls st H) (some (L, xs)) H st) ∧
  (∀ ls st H, aGo cl (some (L, xs)) cd_law 1 1279 ls st H = aRLoad (fun st => aGo cl (some (L, xs)) cd_law 1 1280 ls st H) ls 0 st) ∧
  (∀ ls st H, aGo cl (some (L, xs)) cd_law 1 1280 ls st H = aILoad (fun st => aGo cl (some (L, xs)) cd_law 1 1281 ls st H) ls 3 st) ∧
  (∀ ls st H, aGo cl (some (L, xs)) cd_law 1 1281 ls st H = aGo cl (some (L, xs)) cd_law 1 1282 ls (.int 3 :: st) H) ∧
  (∀ ls st H, aGo cl (some (L, xs)) cd_law 1 1282 ls st H = aBin (fun st => aGo cl (some (L, xs)) cd_law 1 1283 ls st H) (fun x y => x + y) st) ∧
  (∀ ls st H, aGo cl (some (L, xs)) cd_law 1 1283 ls st H = aIald (fun st => aGo cl (some (L, xs)) cd_law 1 1284 ls st H) (some (L, xs)) H st) ∧
  (∀ ls st H, aGo cl (some (L, xs)) cd_law 1 1284 ls st H = aRLoad (fun st => aGo cl (some (L, xs)) cd_law 1 1285 ls st H) ls 0 st) ∧
  (∀ ls st H, aGo cl (some (L, xs)) cd_law 1 1285 ls st H = aILoad (fun st => aGo cl (some (L, xs)) cd_law 1 1286 ls st H) ls 3 st) ∧
  (∀ ls st H, aGo cl (some (L, xs)) cd_law 1 1286 ls st H = aGo cl (some (L, xs)) cd_law 1 1287 ls (.int 4 :: st) H) ∧
  (∀ ls st H, aGo cl (some (L, xs)) cd_law 1 1287 ls st H = aBin (fun st => aGo cl (some (L, xs)) cd_law 1 1288 ls st H) (fun x y => x + y) st) ∧
  (∀ ls st H, aGo cl (some (L, xs)) cd_law 1 1288 ls st H = aIald (fun st => aGo cl (some (L, xs)) cd_law 1 1289 ls st H) (some (L, xs)) H st) ∧
  (∀ ls st H, aGo cl (some (L, xs)) cd_law 1 1289 ls st H = aRLoad (fun st => aGo cl (some (L, xs)) cd_law 1 1290 ls st H) ls 0 st) ∧
  (∀ ls st H, aGo cl (some (L, xs)) cd_law 1 1290 ls st H = aILoad (fun st => aGo cl (some (L, xs)) cd_law 1 1291 ls st H) ls 3 st) ∧
  (∀ ls st H, aGo cl (some (L, xs)) cd_law 1 1291 ls st H = aGo cl (some (L, xs)) cd_law 1 1292 ls (.int 5 :: st) H) ∧
  (∀ ls st H, aGo cl (some (L, xs)) cd_law 1 1292 ls st H = aBin (fun st => aGo cl (some (L, xs)) cd_law 1 1293 ls st H) (fun x y => x + y) st) ∧
  (∀ ls st H, aGo cl (some (L, xs)) cd_law 1 1293 ls st H = aIald (fun st => aGo cl (some (L, xs)) cd_law 1 1294 ls st H) (some (L, xs)) H st) ∧
  (∀ ls st H, aGo cl (some (L, xs)) cd_law 1 1294 ls st H = aCallV (fun st H => aGo cl (some (L, xs)) cd_law 1 1297 ls st H) cl 96 5 7 H st) ∧
  (∀ ls st H, aGo cl (some (L, xs)) cd_law 1 1297 ls st H = aRLoad (fun st => aGo cl (some (L, xs)) cd_law 1 1298 ls st H) ls 2 st) ∧
  (∀ ls st H, aGo cl (some (L, xs)) cd_law 1 1298 ls st H = aRLoad (fun st => aGo cl (some (L, xs)) cd_law 1 1299 ls st H) ls 0 st) ∧
  (∀ ls st H, aGo cl (some (L, xs)) cd_law 1 1299 ls st H = aILoad (fun st => aGo cl (some (L, xs)) cd_law 1 1300 ls st H) ls 3 st) ∧
  (∀ ls st H, aGo cl (some (L, xs)) cd_law 1 1300 ls st H = aGo cl (some (L, xs)) cd_law 1 1301 ls (.int 1 :: st) H) ∧
  (∀ ls st H, aGo cl (some (L, xs)) cd_law 1 1301 ls st H = aBin (fun st => aGo cl (some (L, xs)) cd_law 1 1302 ls st H) (fun x y => x + y) st) ∧
  (∀ ls st H, aGo cl (some (L, xs)) cd_law 1 1302 ls st H = aIald (fun st => aGo cl (some (L, xs)) cd_law 1 1303 ls st H) (some (L, xs)) H st) ∧
  (∀ ls st H, aGo cl (some (L, xs)) cd_law 1 1303 ls st H = aRLoad (fun st => aGo cl (some (L, xs)) cd_law 1 1304 ls st H) ls 0 st) ∧
  (∀ ls st H, aGo cl (some (L, xs)) cd_law 1 1304 ls st H = aILoad (fun st => aGo cl (some (L, xs)) cd_law 1 1305 ls st H) ls 3 st) ∧
  (∀ ls st H, aGo cl (some (L, xs)) cd_law 1 1305 ls st H = aGo cl (some (L, xs)) cd_law 1 1306 ls (.int 2 :: st) H) ∧
  (∀ ls st H, aGo cl (some (L, xs)) cd_law 1 1306 ls st H = aBin (fun st => aGo cl (some (L, xs)) cd_law 1 1307 ls st H) (fun x y => x + y) st) ∧
  (∀ ls st H, aGo cl (some (L, xs)) cd_law 1 1307 ls st H = aIald (fun st => aGo cl (some (L, xs)) cd_law 1 1308 ls st H) (some (L, xs)) H st) ∧
  (∀ ls st H, aGo cl (some (L, xs)) cd_law 1 1308 ls st H = aRLoad (fun st => aGo cl (some (L, xs)) cd_law 1 1309 ls st H) ls 0 st) ∧
  (∀ ls st H, aGo cl (some (L, xs)) cd_law 1 1309 ls st H = aILoad (fun st => aGo cl (some (L, xs)) cd_law 1 1310 ls st H) ls 3 st) ∧
  (∀ ls st H, aGo cl (some (L, xs)) cd_law 1 1310 ls st H = aGo cl (some (L, xs)) cd_law 1 1311 ls (.int 3 :: st) H) ∧
  (∀ ls st H, aGo cl (some (L, xs)) cd_law 1 1311 ls st H = aBin (fun st => aGo cl (some (L, xs)) cd_law 1 1312 ls st H) (fun x y => x + y) st) ∧
  (∀ ls st H, aGo cl (some (L, xs)) cd_law 1 1312 ls st H = aIald (fun st => aGo cl (some (L, xs)) cd_law 1 1313 ls st H) (some (L, xs)) H st) ∧
  (∀ ls st H, aGo cl (some (L, xs)) cd_law 1 1313 ls st H = aRLoad (fun st => aGo cl (some (L, xs)) cd_law 1 1314 ls st H) ls 0 st) ∧
  (∀ ls st H, aGo cl (some (L, xs)) cd_law 1 1314 ls st H = aILoad (fun st => aGo cl (some (L, xs)) cd_law 1 1315 ls st H) ls 3 st) ∧
  (∀ ls st H, aGo cl (some (L, xs)) cd_law 1 1315 ls st H = aGo cl (some (L, xs)) cd_law 1 1316 ls (.int 4 :: st) H) ∧
  (∀ ls st H, aGo cl (some (L, xs)) cd_law 1 1316 ls st H = aBin (fun st => aGo cl (some (L, xs)) cd_law 1 1317 ls st H) (fun x y => x + y) st) ∧
  (∀ ls st H, aGo cl (some (L, xs)) cd_law 1 1317 ls st H = aIald (fun st => aGo cl (some (L, xs)) cd_law 1 1318 ls st H) (some (L, xs)) H st) ∧
  (∀ ls st H, aGo cl (some (L, xs)) cd_law 1 1318 ls st H = aRLoad (fun st => aGo cl (some (L, xs)) cd_law 1 1319 ls st H) ls 0 st) ∧
  (∀ ls st H, aGo cl (some (L, xs)) cd_law 1 1319 ls st H = aILoad (fun st => aGo cl (some (L, xs)) cd_law 1 1320 ls st H) ls 3 st) ∧
  (∀ ls st H, aGo cl (some (L, xs)) cd_law 1 1320 ls st H = aGo cl (some (L, xs)) cd_law 1 1321 ls (.int 5 :: st) H) ∧
  (∀ ls st H, aGo cl (some (L, xs)) cd_law 1 1321 ls st H = aBin (fun st => aGo cl (some (L, xs)) cd_law 1 1322 ls st H) (fun x y => x + y) st) ∧
  (∀ ls st H, aGo cl (some (L, xs)) cd_law 1 1322 ls st H = aIald (fun st => aGo cl (some (L, xs)) cd_law 1 1323 ls st H) (some (L, xs)) H st) ∧
  (∀ ls st H, aGo cl (some (L, xs)) cd_law 1 1323 ls st H = aCallV (fun st H => aGo cl (some (L, xs)) cd_law 1 1326 ls st H) cl 209 5 8 H st) ∧
  (∀ ls st H, aGo cl (some (L, xs)) cd_law 1 1326 ls st H = aIc (fun p st => aGo cl (some (L, xs)) cd_law 1 p ls st H) .eq 1485 1329 st) :=
  ⟨fun _ _ _ => (aGo_s rfl).trans rfl, fun _ _ _ => (aGo_s rfl).trans rfl, fun _ _ _ => (aGo_s rfl).trans rfl, fun _ _ _ => (aGo_s rfl).trans rfl, fun _ _ _ => (aGo_s rfl).trans rfl, fun _ _ _ => (aGo_s rfl).trans rfl, fun _ _ _ => (aGo_s rfl).trans rfl, fun _ _ _ => (aGo_s rfl).trans rfl, fun _ _ _ => (aGo_s rfl).trans rfl, fun _ _ _ => (aGo_s rfl).trans rfl, fun _ _ _ => (aGo_s rfl).trans rfl, fun _ _ _ => (aGo_s rfl).trans rfl, fun _ _ _ => (aGo_s rfl).trans rfl, fun _ _ _ => (aGo_s rfl).trans rfl, fun _ _ _ => (aGo_s rfl).trans rfl, fun _ _ _ => (aGo_s rfl).trans rfl, fun _ _ _ => (aGo_s rfl).trans rfl, fun _ _ _ => (aGo_s rfl).trans rfl, fun _ _ _ => (aGo_s rfl).trans rfl, fun _ _ _ => (aGo_s rfl).trans rfl, fun _ _ _ => (aGo_s rfl).trans rfl, fun _ _ _ => (aGo_s rfl).trans rfl, fun _ _ _ => (aGo_s rfl).trans rfl, fun _ _ _ => (aGo_s rfl).trans rfl, fun _ _ _ => (aGo_s rfl).trans rfl, fun _ _ _ => (aGo_s rfl).trans rfl, fun _ _ _ => (aGo_s rfl).trans rfl, fun _ _ _ => (aGo_s rfl).trans rfl, fun _ _ _ => (aGo_s rfl).trans rfl, fun _ _ _ => (aGo_s rfl).trans rfl, fun _ _ _ => (aGo_s rfl).trans rfl, fun _ _ _ => (aGo_s rfl).trans rfl, fun _ _ _ => (aGo_s rfl).trans rfl, fun _ _ _ => (aGo_s rfl).trans rfl, fun _ _ _ => (aGo_s rfl).trans rfl, fun _ _ _ => (aGo_s rfl).trans rfl, fun _ _ _ => (aGo_s rfl).trans rfl, fun _ _ _ => (aGo_s rfl).trans rfl, fun _ _ _ => (aGo_s rfl).trans rfl, fun _ _ _ => (aGo_s rfl).trans rfl, fun _ _ _ => (aGo_s rfl).trans rfl, fun _ _ _ => (aGo_s rfl).trans rfl, fun _ _ _ => (aGo_s rfl).trans rfl, fun _ _ _ => (aGo_s rfl).trans rfl, fun _ _ _ => (aGo_s rfl).trans rfl, fun _ _ _ => (aGo_s rfl).trans rfl, fun _ _ _ => (aGo_s rfl).trans rfl, fun _ _ _ => (aGo_s rfl).trans rfl, fun _ _ _ => (aGo_s rfl).trans rfl, fun _ _ _ => (aGo_s rfl).trans rfl, fun _ _ _ => (aGo_s rfl).trans rfl, fun _ _ _ => (aGo_s rfl).trans rfl, fun _ _ _ => (aGo_s rfl).trans rfl, fun _ _ _ => (aGo_s rfl).trans rfl, fun _ _ _ => (aGo_s rfl).trans rfl⟩
theorem lw_32 {cl : Nat → List Value → aH → aRs} {L i : Nat} {xs : Nat → Int32} {I I1 I2 : Nat → Nat → Int32} {x y x1 y1 : Option Nat} {v : Int32} (hi : i + 6 ≤ L) (hL : L ≤ 3072) (h1 : cl 96 [.ref 0, .int (xs (i + 1)), .int (xs (i + 2)), .int (xs (i + 3)), .int (xs (i + 4)), .int (xs (i + 5))] (HH I x y) = some (some (.int v), HH I1 x1 y1)) (h2 : cl 209 [.ref 113, .int (xs (i + 1)), .int (xs (i + 2)), .int (xs (i + 3)), .int (xs (i + 4)), .int (xs (i + 5))] (HH I1 x1 y1) = some (some (.int v), HH I2 x1 y1)) : aGo cl (some (L, xs)) cd_law 1 1268 (lwLs i) [] (HH I x y) = aGo cl (some (L, xs)) cd_law 1 1485 (lwLs i) [] (HH I2 x1 y1) := by
  simp [w_32, aILoad, aRLoad, aLLoad, aIStore, aRStore, aPush, aBin, aBinL, aShL, aUn, aIf, aIc, aGet, aPut, aBald, aAald, aIast, aBast, aAast, aAlen, aCopy, aCallV, aCallC, aCallI, aRet, aCat, aMax, aMin, aDiv, aRem, aI2l, aL2i, aNul, aSwS, aSw, aInc, aDup, aDup2, aPop1, aIret, aAret, aVret, aLen, aFk, aFT, Value.category, c_sh, m_sh, lw_l hi hL, h1, h2]
theorem w_33 {cl : Nat → List Value → aH → aRs} {L : Nat} {xs : Nat → Int32} : (∀ ls st H, aGo cl (some (L, xs)) cd_law 1 1331 ls st H = aRLoad (fun st => aGo cl (some (L, xs)) cd_law 1 1332 ls st H) ls 1 st) ∧
  (∀ ls st H, aGo cl (some (L, xs)) cd_law 1 1332 ls st H = aRLoad (fun st => aGo cl (some (L, xs)) cd_law 1 1333 ls st H) ls 0 st) ∧
  (∀ ls st H, aGo cl (some (L, xs)) cd_law 1 1333 ls st H = aILoad (fun st => aGo cl (some (L, xs)) cd_law 1 1334 ls st H) ls 3 st) ∧
  (∀ ls st H, aGo cl (some (L, xs)) cd_law 1 1334 ls st H = aGo cl (some (L, xs)) cd_law 1 1335 ls (.int 1 :: st) H) ∧
  (∀ ls st H, aGo cl (some (L, xs)) cd_law 1 1335 ls st H = aBin (fun st => aGo cl (some (L, xs)) cd_law 1 1336 ls st H) (fun x y => x + y) st) ∧
  (∀ ls st H, aGo cl (some (L, xs)) cd_law 1 1336 ls st H = aIald (fun st => aGo cl (some (L, xs)) cd_law 1 1337 ls st H) (some (L, xs)) H st) ∧
  (∀ ls st H, aGo cl (some (L, xs)) cd_law 1 1337 ls st H = aCallV (fun st H => aGo cl (some (L, xs)) cd_law 1 1340 ls st H) cl 97 1 7 H st) ∧
  (∀ ls st H, aGo cl (some (L, xs)) cd_law 1 1340 ls st H = aRLoad (fun st => aGo cl (some (L, xs)) cd_law 1 1341 ls st H) ls 2 st) ∧
  (∀ ls st H, aGo cl (some (L, xs)) cd_law 1 1341 ls st H = aRLoad (fun st => aGo cl (some (L, xs)) cd_law 1 1342 ls st H) ls 0 st) ∧
  (∀ ls st H, aGo cl (some (L, xs)) cd_law 1 1342 ls st H = aILoad (fun st => aGo cl (some (L, xs)) cd_law 1 1343 ls st H) ls 3 st) ∧
  (∀ ls st H, aGo cl (some (L, xs)) cd_law 1 1343 ls st H = aGo cl (some (L, xs)) cd_law 1 1344 ls (.int 1 :: st) H) ∧
  (∀ ls st H, aGo cl (some (L, xs)) cd_law 1 1344 ls st H = aBin (fun st => aGo cl (some (L, xs)) cd_law 1 1345 ls st H) (fun x y => x + y) st) ∧
  (∀ ls st H, aGo cl (some (L, xs)) cd_law 1 1345 ls st H = aIald (fun st => aGo cl (some (L, xs)) cd_law 1 1346 ls st H) (some (L, xs)) H st) ∧
  (∀ ls st H, aGo cl (some (L, xs)) cd_law 1 1346 ls st H = aCallV (fun st H => aGo cl (some (L, xs)) cd_law 1 1349 ls st H) cl 211 1 8 H st) ∧
  (∀ ls st H, aGo cl (some (L, xs)) cd_law 1 1349 ls st H = aIc (fun p st => aGo cl (some (L, xs)) cd_law 1 p ls st H) .eq 1485 1352 st) :=
  ⟨fun _ _ _ => (aGo_s rfl).trans rfl, fun _ _ _ => (aGo_s rfl).trans rfl, fun _ _ _ => (aGo_s rfl).trans rfl, fun _ _ _ => (aGo_s rfl).trans rfl, fun _ _ _ => (aGo_s rfl).trans rfl, fun _ _ _ => (aGo_s rfl).trans rfl, fun _ _ _ => (aGo_s rfl).trans rfl, fun _ _ _ => (aGo_s rfl).trans rfl, fun _ _ _ => (aGo_s rfl).trans rfl, fun _ _ _ => (aGo_s rfl).trans rfl, fun _ _ _ => (aGo_s rfl).trans rfl, fun _ _ _ => (aGo_s rfl).trans rfl, fun _ _ _ => (aGo_s rfl).trans rfl, fun _ _ _ => (aGo_s rfl).trans rfl, fun _ _ _ => (aGo_s rfl).trans rfl⟩
theorem lw_33 {cl : Nat → List Value → aH → aRs} {L i : Nat} {xs : Nat → Int32} {I I1 I2 : Nat → Nat → Int32} {x y x1 y1 : Option Nat} {v : Int32} (hi : i + 6 ≤ L) (hL : L ≤ 3072) (h1 : cl 97 [.ref 0, .int (xs (i + 1))] (HH I x y) = some (some (.int v), HH I1 x1 y1)) (h2 : cl 211 [.ref 113, .int (xs (i + 1))] (HH I1 x1 y1) = some (some (.int v), HH I2 x1 y1)) : aGo cl (some (L, xs)) cd_law 1 1331 (lwLs i) [] (HH I x y) = aGo cl (some (L, xs)) cd_law 1 1485 (lwLs i) [] (HH I2 x1 y1) := by
  simp [w_33, aILoad, aRLoad, aLLoad, aIStore, aRStore, aPush, aBin, aBinL, aShL, aUn, aIf, aIc, aGet, aPut, aBald, aAald, aIast, aBast, aAast, aAlen, aCopy, aCallV, aCallC, aCallI, aRet, aCat, aMax, aMin, aDiv, aRem, aI2l, aL2i, aNul, aSwS, aSw, aInc, aDup, aDup2, aPop1, aIret, aAret, aVret, aLen, aFk, aFT, Value.category, c_sh, m_sh, lw_l hi hL, h1, h2]
theorem w_34 {cl : Nat → List Value → aH → aRs} {L : Nat} {xs : Nat → Int32} : (∀ ls st H, aGo cl (some (L, xs)) cd_law 1 1354 ls st H = aRLoad (fun st => aGo cl (some (L, xs)) cd_law 1 1355 ls st H) ls 1 st) ∧
  (∀ ls st H, aGo cl (some (L, xs)) cd_law 1 1355 ls st H = aRLoad (fun st => aGo cl (some (L, xs)) cd_law 1 1356 ls st H) ls 0 st) ∧
  (∀ ls st H, aGo cl (some (L, xs)) cd_law 1 1356 ls st H = aILoad (fun st => aGo cl (some (L, xs)) cd_law 1 1357 ls st H) ls 3 st) ∧
  (∀ ls st H, aGo cl (some (L, xs)) cd_law 1 1357 ls st H = aGo cl (some (L, xs)) cd_law 1 1358 ls (.int 1 :: st) H) ∧
  (∀ ls st H, aGo cl (some (L, xs)) cd_law 1 1358 ls st H = aBin (fun st => aGo cl (some (L, xs)) cd_law 1 1359 ls st H) (fun x y => x + y) st) ∧
  (∀ ls st H, aGo cl (some (L, xs)) cd_law 1 1359 ls st H = aIald (fun st => aGo cl (some (L, xs)) cd_law 1 1360 ls st H) (some (L, xs)) H st) ∧
  (∀ ls st H, aGo cl (some (L, xs)) cd_law 1 1360 ls st H = aCallV (fun st H => aGo cl (some (L, xs)) cd_law 1 1363 ls st H) cl 98 1 7 H st) ∧
  (∀ ls st H, aGo cl (some (L, xs)) cd_law 1 1363 ls st H = aRLoad (fun st => aGo cl (some (L, xs)) cd_law 1 1364 ls st H) ls 2 st) ∧
  (∀ ls st H, aGo cl (some (L, xs)) cd_law 1 1364 ls st H = aRLoad (fun st => aGo cl (some (L, xs)) cd_law 1 1365 ls st H) ls 0 st) ∧
  (∀ ls st H, aGo cl (some (L, xs)) cd_law 1 1365 ls st H = aILoad (fun st => aGo cl (some (L, xs)) cd_law 1 1366 ls st H) ls 3 st) ∧
  (∀ ls st H, aGo cl (some (L, xs)) cd_law 1 1366 ls st H = aGo cl (some (L, xs)) cd_law 1 1367 ls (.int 1 :: st) H) ∧
  (∀ ls st H, aGo cl (some (L, xs)) cd_law 1 1367 ls st H = aBin (fun st => aGo cl (some (L, xs)) cd_law 1 1368 ls st H) (fun x y => x + y) st) ∧
  (∀ ls st H, aGo cl (some (L, xs)) cd_law 1 1368 ls st H = aIald (fun st => aGo cl (some (L, xs)) cd_law 1 1369 ls st H) (some (L, xs)) H st) ∧
  (∀ ls st H, aGo cl (some (L, xs)) cd_law 1 1369 ls st H = aCallV (fun st H => aGo cl (some (L, xs)) cd_law 1 1372 ls st H) cl 212 1 8 H st) ∧
  (∀ ls st H, aGo cl (some (L, xs)) cd_law 1 1372 ls st H = aIc (fun p st => aGo cl (some (L, xs)) cd_law 1 p ls st H) .eq 1485 1375 st) :=
  ⟨fun _ _ _ => (aGo_s rfl).trans rfl, fun _ _ _ => (aGo_s rfl).trans rfl, fun _ _ _ => (aGo_s rfl).trans rfl, fun _ _ _ => (aGo_s rfl).trans rfl, fun _ _ _ => (aGo_s rfl).trans rfl, fun _ _ _ => (aGo_s rfl).trans rfl, fun _ _ _ => (aGo_s rfl).trans rfl, fun _ _ _ => (aGo_s rfl).trans rfl, fun _ _ _ => (aGo_s rfl).trans rfl, fun _ _ _ => (aGo_s rfl).trans rfl, fun _ _ _ => (aGo_s rfl).trans rfl, fun _ _ _ => (aGo_s rfl).trans rfl, fun _ _ _ => (aGo_s rfl).trans rfl, fun _ _ _ => (aGo_s rfl).trans rfl, fun _ _ _ => (aGo_s rfl).trans rfl⟩
theorem lw_34 {cl : Nat → List Value → aH → aRs} {L i : Nat} {xs : Nat → Int32} {I I1 I2 : Nat → Nat → Int32} {x y x1 y1 : Option Nat} {v : Int32} (hi : i + 6 ≤ L) (hL : L ≤ 3072) (h1 : cl 98 [.ref 0, .int (xs (i + 1))] (HH I x y) = some (some (.int v), HH I1 x1 y1)) (h2 : cl 212 [.ref 113, .int (xs (i + 1))] (HH I1 x1 y1) = some (some (.int v), HH I2 x1 y1)) : aGo cl (some (L, xs)) cd_law 1 1354 (lwLs i) [] (HH I x y) = aGo cl (some (L, xs)) cd_law 1 1485 (lwLs i) [] (HH I2 x1 y1) := by
  simp [w_34, aILoad, aRLoad, aLLoad, aIStore, aRStore, aPush, aBin, aBinL, aShL, aUn, aIf, aIc, aGet, aPut, aBald, aAald, aIast, aBast, aAast, aAlen, aCopy, aCallV, aCallC, aCallI, aRet, aCat, aMax, aMin, aDiv, aRem, aI2l, aL2i, aNul, aSwS, aSw, aInc, aDup, aDup2, aPop1, aIret, aAret, aVret, aLen, aFk, aFT, Value.category, c_sh, m_sh, lw_l hi hL, h1, h2]
theorem w_35 {cl : Nat → List Value → aH → aRs} {L : Nat} {xs : Nat → Int32} : (∀ ls st H, aGo cl (some (L, xs)) cd_law 1 1377 ls st H = aRLoad (fun st => aGo cl (some (L, xs)) cd_law 1 1378 ls st H) ls 1 st) ∧
  (∀ ls st H, aGo cl (some (L, xs)) cd_law 1 1378 ls st H = aCallV (fun st H => aGo cl (some (L, xs)) cd_law 1 1381 ls st H) cl 99 0 7 H st) ∧
  (∀ ls st H, aGo cl (some (L, xs)) cd_law 1 1381 ls st H = aRLoad (fun st => aGo cl (some (L, xs)) cd_law 1 1382 ls st H) ls 2 st) ∧
  (∀ ls st H, aGo cl (some (L, xs)) cd_law 1 1382 ls st H = aCallV (fun st H => aGo cl (some (L, xs)) cd_law 1 1385 ls st H) cl 213 0 8 H st) ∧
  (∀ ls st H, aGo cl (some (L, xs)) cd_law 1 1385 ls st H = aIc (fun p st => aGo cl (some (L, xs)) cd_law 1 p ls st H) .eq 1485 1388 st) :=
  ⟨fun _ _ _ => (aGo_s rfl).trans rfl, fun _ _ _ => (aGo_s rfl).trans rfl, fun _ _ _ => (aGo_s rfl).trans rfl, fun _ _ _ => (aGo_s rfl).trans rfl, fun _ _ _ => (aGo_s rfl).trans rfl⟩
theorem lw_35 {cl : Nat → List Value → aH → aRs} {L i : Nat} {xs : Nat → Int32} {I I1 I2 : Nat → Nat → Int32} {x y x1 y1 : Option Nat} {v : Int32} (hi : i + 6 ≤ L) (hL : L ≤ 3072) (h1 : cl 99 [.ref 0] (HH I x y) = some (some (.int v), HH I1 x1 y1)) (h2 : cl 213 [.ref 113] (HH I1 x1 y1) = some (some (.int v), HH I2 x1 y1)) : aGo cl (some (L, xs)) cd_law 1 1377 (lwLs i) [] (HH I x y) = aGo cl (some (L, xs)) cd_law 1 1485 (lwLs i) [] (HH I2 x1 y1) := by
  simp [w_35, aILoad, aRLoad, aLLoad, aIStore, aRStore, aPush, aBin, aBinL, aShL, aUn, aIf, aIc, aGet, aPut, aBald, aAald, aIast, aBast, aAast, aAlen, aCopy, aCallV, aCallC, aCallI, aRet, aCat, aMax, aMin, aDiv, aRem, aI2l, aL2i, aNul, aSwS, aSw, aInc, aDup, aDup2, aPop1, aIret, aAret, aVret, aLen, aFk, aFT, Value.category, c_sh, m_sh, lw_l hi hL, h1, h2]
theorem w_36 {cl : Nat → List Value → aH → aRs} {L : Nat} {xs : Nat → Int32} : (∀ ls st H, aGo cl (some (L, xs)) cd_law 1 1390 ls st H = aRLoad (fun st => aGo cl (some (L, xs)) cd_law 1 1391 ls st H) ls 1 st) ∧
  (∀ ls st H, aGo cl (some (L, xs)) cd_law 1 1391 ls st H = aCallV (fun st H => aGo cl (some (L, xs)) cd_law 1 1394 ls st H) cl 100 0 7 H st) ∧
  (∀ ls st H, aGo cl (some (L, xs)) cd_law 1 1394 ls st H = aRLoad (fun st => aGo cl (some (L, xs)) cd_law 1 1395 ls st H) ls 2 st) ∧
  (∀ ls st H, aGo cl (some (L, xs)) cd_law 1 1395 ls st H = aCallV (fun st H => aGo cl (some (L, xs)) cd_law 1 1398 ls st H) cl 214 0 8 H st) ∧
  (∀ ls st H, aGo cl (some (L, xs)) cd_law 1 1398 ls st H = aIc (fun p st => aGo cl (some (L, xs)) cd_law 1 p ls st H) .eq 1485 1401 st) :=
  ⟨fun _ _ _ => (aGo_s rfl).trans rfl, fun _ _ _ => (aGo_s rfl).trans rfl, fun _ _ _ => (aGo_s rfl).trans rfl, fun _ _ _ => (aGo_s rfl).trans rfl, fun _ _ _ => (aGo_s rfl).trans rfl⟩
theorem lw_36 {cl : Nat → List Value → aH → aRs} {L i : Nat} {xs : Nat → Int32} {I I1 I2 : Nat → Nat → Int32} {x y x1 y1 : Option Nat} {v : Int32} (hi : i + 6 ≤ L) (hL : L ≤ 3072) (h1 : cl 100 [.ref 0] (HH I x y) = some (some (.int v), HH I1 x1 y1)) (h2 : cl 214 [.ref 113] (HH I1 x1 y1) = some (some (.int v), HH I2 x1 y1)) : aGo cl (some (L, xs)) cd_law 1 1390 (lwLs i) [] (HH I x y) = aGo cl (some (L, xs)) cd_law 1 1485 (lwLs i) [] (HH I2 x1 y1) := by
  simp [w_36, aILoad, aRLoad, aLLoad, aIStore, aRStore, aPush, aBin, aBinL, aShL, aUn, aIf, aIc, aGet, aPut, aBald, aAald, aIast, aBast, aAast, aAlen, aCopy, aCallV, aCallC, aCallI, aRet, aCat, aMax, aMin, aDiv, aRem, aI2l, aL2i, aNul, aSwS, aSw, aInc, aDup, aDup2, aPop1, aIret, aAret, aVret, aLen, aFk, aFT, Value.category, c_sh, m_sh, lw_l hi hL, h1, h2]
theorem w_37 {cl : Nat → List Value → aH → aRs} {L : Nat} {xs : Nat → Int32} : (∀ ls st H, aGo cl (some (L, xs)) cd_law 1 1403 ls st H = aRLoad (fun st => aGo cl (some (L, xs)) cd_law 1 1404 ls st H) ls 1 st) ∧
  (∀ ls st H, aGo cl (some (L, xs)) cd_law 1 1404 ls st H = aRLoad (fun st => aGo cl (some (L, xs)) cd_law 1 1405 ls st H) ls 0 st) ∧
  (∀ ls st H, aGo cl (some (L, xs)) cd_law 1 1405 ls st H = aILoad (fun st => aGo cl (some (L, xs)) cd_law 1 1406 ls st H) ls 3 st) ∧
  (∀ ls st H, aGo cl (some (L, xs)) cd_law 1 1406 ls st H = aGo cl (some (L, xs)) cd_law 1 1407 ls (.int 1 :: st) H) ∧
  (∀ ls st H, aGo cl (some (L, xs)) cd_law 1 1407 ls st H = aBin (fun st => aGo cl (some (L, xs)) cd_law 1 1408 ls st H) (fun x y => x + y) st) ∧
  (∀ ls st H, aGo cl (some (L, xs)) cd_law 1 1408 ls st H = aIald (fun st => aGo cl (some (L, xs)) cd_law 1 1409 ls st H) (some (L, xs)) H st) ∧
  (∀ ls st H, aGo cl (some (L, xs)) cd_law 1 1409 ls st H = aCallV (fun st H => aGo cl (some (L, xs)) cd_law 1 1412 ls st H) cl 101 1 7 H st) ∧
  (∀ ls st H, aGo cl (some (L, xs)) cd_law 1 1412 ls st H = aRLoad (fun st => aGo cl (some (L, xs)) cd_law 1 1413 ls st H) ls 2 st) ∧
  (∀ ls st H, aGo cl (some (L, xs)) cd_law 1 1413 ls st H = aRLoad (fun st => aGo cl (some (L, xs)) cd_law 1 1414 ls st H) ls 0 st) ∧
  (∀ ls st H, aGo cl (some (L, xs)) cd_law 1 1414 ls st H = aILoad (fun st => aGo cl (some (L, xs)) cd_law 1 1415 ls st H) ls 3 st) ∧
  (∀ ls st H, aGo cl (some (L, xs)) cd_law 1 1415 ls st H = aGo cl (some (L, xs)) cd_law 1 1416 ls (.int 1 :: st) H) ∧
  (∀ ls st H, aGo cl (some (L, xs)) cd_law 1 1416 ls st H = aBin (fun st => aGo cl (some (L, xs)) cd_law 1 1417 ls st H) (fun x y => x + y) st) ∧
  (∀ ls st H, aGo cl (some (L, xs)) cd_law 1 1417 ls st H = aIald (fun st => aGo cl (some (L, xs)) cd_law 1 1418 ls st H) (some (L, xs)) H st) ∧
  (∀ ls st H, aGo cl (some (L, xs)) cd_law 1 1418 ls st H = aCallV (fun st H => aGo cl (some (L, xs)) cd_law 1 1421 ls st H) cl 215 1 8 H st) ∧
  (∀ ls st H, aGo cl (some (L, xs)) cd_law 1 1421 ls st H = aIc (fun p st => aGo cl (some (L, xs)) cd_law 1 p ls st H) .eq 1485 1424 st) :=
  ⟨fun _ _ _ => (aGo_s rfl).trans rfl, fun _ _ _ => (aGo_s rfl).trans rfl, fun _ _ _ => (aGo_s rfl).trans rfl, fun _ _ _ => (aGo_s rfl).trans rfl, fun _ _ _ => (aGo_s rfl).trans rfl, fun _ _ _ => (aGo_s rfl).trans rfl, fun _ _ _ => (aGo_s rfl).trans rfl, fun _ _ _ => (aGo_s rfl).trans rfl, fun _ _ _ => (aGo_s rfl).trans rfl, fun _ _ _ => (aGo_s rfl).trans rfl, fun _ _ _ => (aGo_s rfl).trans rfl, fun _ _ _ => (aGo_s rfl).trans rfl, fun _ _ _ => (aGo_s rfl).trans rfl, fun _ _ _ => (aGo_s rfl).trans rfl, fun _ _ _ => (aGo_s rfl).trans rfl⟩
theorem lw_37 {cl : Nat → List Value → aH → aRs} {L i : Nat} {xs : Nat → Int32} {I I1 I2 : Nat → Nat → Int32} {x y x1 y1 : Option Nat} {v : Int32} (hi : i + 6 ≤ L) (hL : L ≤ 3072) (h1 : cl 101 [.ref 0, .int (xs (i + 1))] (HH I x y) = some (some (.int v), HH I1 x1 y1)) (h2 : cl 215 [.ref 113, .int (xs (i + 1))] (HH I1 x1 y1) = some (some (.int v), HH I2 x1 y1)) : aGo cl (some (L, xs)) cd_law 1 1403 (lwLs i) [] (HH I x y) = aGo cl (some (L, xs)) cd_law 1 1485 (lwLs i) [] (HH I2 x1 y1) := by
  simp [w_37, aILoad, aRLoad, aLLoad, aIStore, aRStore, aPush, aBin, aBinL, aShL, aUn, aIf, aIc, aGet, aPut, aBald, aAald, aIast, aBast, aAast, aAlen, aCopy, aCallV, aCallC, aCallI, aRet, aCat, aMax, aMin, aDiv, aRem, aI2l, aL2i, aNul, aSwS, aSw, aInc, aDup, aDup2, aPop1, aIret, aAret, aVret, aLen, aFk, aFT, Value.category, c_sh, m_sh, lw_l hi hL, h1, h2]
theorem w_38 {cl : Nat → List Value → aH → aRs} {L : Nat} {xs : Nat → Int32} : (∀ ls st H, aGo cl (some (L, xs)) cd_law 1 1426 ls st H = aRLoad (fun st => aGo cl (some (L, xs)) cd_law 1 1427 ls st H) ls 1 st) ∧
  (∀ ls st H, aGo cl (some (L, xs)) cd_law 1 1427 ls st H = aCallV (fun st H => aGo cl (some (L, xs)) cd_law 1 1430 ls st H) cl 102 0 7 H st) ∧
  (∀ ls st H, aGo cl (some (L, xs)) cd_law 1 1430 ls st H = aRLoad (fun st => aGo cl (some (L, xs)) cd_law 1 1431 ls st H) ls 2 st) ∧
  (∀ ls st H, aGo cl (some (L, xs)) cd_law 1 1431 ls st H = aCallV (fun st H => aGo cl (some (L, xs)) cd_law 1 1434 ls st H) cl 216 0 8 H st) ∧
  (∀ ls st H, aGo cl (some (L, xs)) cd_law 1 1434 ls st H = aIc (fun p st => aGo cl (some (L, xs)) cd_law 1 p ls st H) .eq 1485 1437 st) :=
  ⟨fun _ _ _ => (aGo_s rfl).trans rfl, fun _ _ _ => (aGo_s rfl).trans rfl, fun _ _ _ => (aGo_s rfl).trans rfl, fun _ _ _ => (aGo_s rfl).trans rfl, fun _ _ _ => (aGo_s rfl).trans rfl⟩
theorem lw_38 {cl : Nat → List Value → aH → aRs} {L i : Nat} {xs : Nat → Int32} {I I1 I2 : Nat → Nat → Int32} {x y x1 y1 : Option Nat} {v : Int32} (hi : i + 6 ≤ L) (hL : L ≤ 3072) (h1 : cl 102 [.ref 0] (HH I x y) = some (some (.int v), HH I1 x1 y1)) (h2 : cl 216 [.ref 113] (HH I1 x1 y1) = some (some (.int v), HH I2 x1 y1)) : aGo cl (some (L, xs)) cd_law 1 1426 (lwLs i) [] (HH I x y) = aGo cl (some (L, xs)) cd_law 1 1485 (lwLs i) [] (HH I2 x1 y1) := by
  simp [w_38, aILoad, aRLoad, aLLoad, aIStore, aRStore, aPush, aBin, aBinL, aShL, aUn, aIf, aIc, aGet, aPut, aBald, aAald, aIast, aBast, aAast, aAlen, aCopy, aCallV, aCallC, aCallI, aRet, aCat, aMax, aMin, aDiv, aRem, aI2l, aL2i, aNul, aSwS, aSw, aInc, aDup, aDup2, aPop1, aIret, aAret, aVret, aLen, aFk, aFT, Value.category, c_sh, m_sh, lw_l hi hL, h1, h2]
theorem w_39 {cl : Nat → List Value → aH → aRs} {L : Nat} {xs : Nat → Int32} : (∀ ls st H, aGo cl (some (L, xs)) cd_law 1 1439 ls st H = aRLoad (fun st => aGo cl (some (L, xs)) cd_law 1 1440 ls st H) ls 1 st) ∧
  (∀ ls st H, aGo cl (some (L, xs)) cd_law 1 1440 ls st H = aRLoad (fun st => aGo cl (some (L, xs)) cd_law 1 1441 ls st H) ls 0 st) ∧
  (∀ ls st H, aGo cl (some (L, xs)) cd_law 1 1441 ls st H = aILoad (fun st => aGo cl (some (L, xs)) cd_law 1 1442 ls st H) ls 3 st) ∧
  (∀ ls st H, aGo cl (some (L, xs)) cd_law 1 1442 ls st H = aGo cl (some (L, xs)) cd_law 1 1443 ls (.int 1 :: st) H) ∧
  (∀ ls st H, aGo cl (some (L, xs)) cd_law 1 1443 ls st H = aBin (fun st => aGo cl (some (L, xs)) cd_law 1 1444 ls st H) (fun x y => x + y) st) ∧
  (∀ ls st H, aGo cl (some (L, xs)) cd_law 1 1444 ls st H = aIald (fun st => aGo cl (some (L, xs)) cd_law 1 1445 ls st H) (some (L, xs)) H st) ∧
  (∀ ls st H, aGo cl (some (L, xs)) cd_law 1 1445 ls st H = aCallV (fun st H => aGo cl (some (L, xs)) cd_law 1 1448 ls st H) cl 103 1 7 H st) ∧
  (∀ ls st H, aGo cl (some (L, xs)) cd_law 1 1448 ls st H = aRLoad (fun st => aGo cl (some (L, xs)) cd_law 1 1449 ls st H) ls 2 st) ∧
  (∀ ls st H, aGo cl (some (L, xs)) cd_law 1 1449 ls st H = aRLoad (fun st => aGo cl (some (L, xs)) cd_law 1 1450 ls st H) ls 0 st) ∧
  (∀ ls st H, aGo cl (some (L, xs)) cd_law 1 1450 ls st H = aILoad (fun st => aGo cl (some (L, xs)) cd_law 1 1451 ls st H) ls 3 st) ∧
  (∀ ls st H, aGo cl (some (L, xs)) cd_law 1 1451 ls st H = aGo cl (some (L, xs)) cd_law 1 1452 ls (.int 1 :: st) H) ∧
  (∀ ls st H, aGo cl (some (L, xs)) cd_law 1 1452 ls st H = aBin (fun st => aGo cl (some (L, xs)) cd_law 1 1453 ls st H) (fun x y => x + y) st) ∧
  (∀ ls st H, aGo cl (some (L, xs)) cd_law 1 1453 ls st H = aIald (fun st => aGo cl (some (L, xs)) cd_law 1 1454 ls st H) (some (L, xs)) H st) ∧
  (∀ ls st H, aGo cl (some (L, xs)) cd_law 1 1454 ls st H = aCallV (fun st H => aGo cl (some (L, xs)) cd_law 1 1457 ls st H) cl 217 1 8 H st) ∧
  (∀ ls st H, aGo cl (some (L, xs)) cd_law 1 1457 ls st H = aIc (fun p st => aGo cl (some (L, xs)) cd_law 1 p ls st H) .eq 1485 1460 st) :=
  ⟨fun _ _ _ => (aGo_s rfl).trans rfl, fun _ _ _ => (aGo_s rfl).trans rfl, fun _ _ _ => (aGo_s rfl).trans rfl, fun _ _ _ => (aGo_s rfl).trans rfl, fun _ _ _ => (aGo_s rfl).trans rfl, fun _ _ _ => (aGo_s rfl).trans rfl, fun _ _ _ => (aGo_s rfl).trans rfl, fun _ _ _ => (aGo_s rfl).trans rfl, fun _ _ _ => (aGo_s rfl).trans rfl, fun _ _ _ => (aGo_s rfl).trans rfl, fun _ _ _ => (aGo_s rfl).trans rfl, fun _ _ _ => (aGo_s rfl).trans rfl, fun _ _ _ => (aGo_s rfl).trans rfl, fun _ _ _ => (aGo_s rfl).trans rfl, fun _ _ _ => (aGo_s rfl).trans rfl⟩
theorem lw_39 {cl : Nat → List Value → aH → aRs} {L i : Nat} {xs : Nat → Int32} {I I1 I2 : Nat → Nat → Int32} {x y x1 y1 : Option Nat} {v : Int32} (hi : i + 6 ≤ L) (hL : L ≤ 3072) (h1 : cl 103 [.ref 0, .int (xs (i + 1))] (HH I x y) = some (some (.int v), HH I1 x1 y1)) (h2 : cl 217 [.ref 113, .int (xs (i + 1))] (HH I1 x1 y1) = some (some (.int v), HH I2 x1 y1)) : aGo cl (some (L, xs)) cd_law 1 1439 (lwLs i) [] (HH I x y) = aGo cl (some (L, xs)) cd_law 1 1485 (lwLs i) [] (HH I2 x1 y1) := by
  simp [w_39, aILoad, aRLoad, aLLoad, aIStore, aRStore, aPush, aBin, aBinL, aShL, aUn, aIf, aIc, aGet, aPut, aBald, aAald, aIast, aBast, aAast, aAlen, aCopy, aCallV, aCallC, aCallI, aRet, aCat, aMax, aMin, aDiv, aRem, aI2l, aL2i, aNul, aSwS, aSw, aInc, aDup, aDup2, aPop1, aIret, aAret, aVret, aLen, aFk, aFT, Value.category, c_sh, m_sh, lw_l hi hL, h1, h2]
theorem w_40 {cl : Nat → List Value → aH → aRs} {L : Nat} {xs : Nat → Int32} : (∀ ls st H, aGo cl (some (L, xs)) cd_law 1 1462 ls st H = aRLoad (fun st => aGo cl (some (L, xs)) cd_law 1 1463 ls st H) ls 1 st) ∧
  (∀ ls st H, aGo cl (some (L, xs)) cd_law 1 1463 ls st H = aRLoad (fun st => aGo cl (some (L, xs)) cd_law 1 1464 ls st H) ls 0 st) ∧
  (∀ ls st H, aGo cl (some (L, xs)) cd_law 1 1464 ls st H = aILoad (fun st => aGo cl (some (L, xs)) cd_law 1 1465 ls st H) ls 3 st) ∧
  (∀ ls st H, aGo cl (some (L, xs)) cd_law 1 1465 ls st H = aGo cl (some (L, xs)) cd_law 1 1466 ls (.int 1 :: st) H) ∧
  (∀ ls st H, aGo cl (some (L, xs)) cd_law 1 1466 ls st H = aBin (fun st => aGo cl (some (L, xs)) cd_law 1 1467 ls st H) (fun x y => x + y) st) ∧
  (∀ ls st H, aGo cl (some (L, xs)) cd_law 1 1467 ls st H = aIald (fun st => aGo cl (some (L, xs)) cd_law 1 1468 ls st H) (some (L, xs)) H st) ∧
  (∀ ls st H, aGo cl (some (L, xs)) cd_law 1 1468 ls st H = aCallV (fun st H => aGo cl (some (L, xs)) cd_law 1 1471 ls st H) cl 104 1 7 H st) ∧
  (∀ ls st H, aGo cl (some (L, xs)) cd_law 1 1471 ls st H = aRLoad (fun st => aGo cl (some (L, xs)) cd_law 1 1472 ls st H) ls 2 st) ∧
  (∀ ls st H, aGo cl (some (L, xs)) cd_law 1 1472 ls st H = aRLoad (fun st => aGo cl (some (L, xs)) cd_law 1 1473 ls st H) ls 0 st) ∧
  (∀ ls st H, aGo cl (some (L, xs)) cd_law 1 1473 ls st H = aILoad (fun st => aGo cl (some (L, xs)) cd_law 1 1474 ls st H) ls 3 st) ∧
  (∀ ls st H, aGo cl (some (L, xs)) cd_law 1 1474 ls st H = aGo cl (some (L, xs)) cd_law 1 1475 ls (.int 1 :: st) H) ∧
  (∀ ls st H, aGo cl (some (L, xs)) cd_law 1 1475 ls st H = aBin (fun st => aGo cl (some (L, xs)) cd_law 1 1476 ls st H) (fun x y => x + y) st) ∧
  (∀ ls st H, aGo cl (some (L, xs)) cd_law 1 1476 ls st H = aIald (fun st => aGo cl (some (L, xs)) cd_law 1 1477 ls st H) (some (L, xs)) H st) ∧
  (∀ ls st H, aGo cl (some (L, xs)) cd_law 1 1477 ls st H = aCallV (fun st H => aGo cl (some (L, xs)) cd_law 1 1480 ls st H) cl 218 1 8 H st) ∧
  (∀ ls st H, aGo cl (some (L, xs)) cd_law 1 1480 ls st H = aIc (fun p st => aGo cl (some (L, xs)) cd_law 1 p ls st H) .eq 1485 1483 st) :=
  ⟨fun _ _ _ => (aGo_s rfl).trans rfl, fun _ _ _ => (aGo_s rfl).trans rfl, fun _ _ _ => (aGo_s rfl).trans rfl, fun _ _ _ => (aGo_s rfl).trans rfl, fun _ _ _ => (aGo_s rfl).trans rfl, fun _ _ _ => (aGo_s rfl).trans rfl, fun _ _ _ => (aGo_s rfl).trans rfl, fun _ _ _ => (aGo_s rfl).trans rfl, fun _ _ _ => (aGo_s rfl).trans rfl, fun _ _ _ => (aGo_s rfl).trans rfl, fun _ _ _ => (aGo_s rfl).trans rfl, fun _ _ _ => (aGo_s rfl).trans rfl, fun _ _ _ => (aGo_s rfl).trans rfl, fun _ _ _ => (aGo_s rfl).trans rfl, fun _ _ _ => (aGo_s rfl).trans rfl⟩
theorem lw_40 {cl : Nat → List Value → aH → aRs} {L i : Nat} {xs : Nat → Int32} {I I1 I2 : Nat → Nat → Int32} {x y x1 y1 : Option Nat} {v : Int32} (hi : i + 6 ≤ L) (hL : L ≤ 3072) (h1 : cl 104 [.ref 0, .int (xs (i + 1))] (HH I x y) = some (some (.int v), HH I1 x1 y1)) (h2 : cl 218 [.ref 113, .int (xs (i + 1))] (HH I1 x1 y1) = some (some (.int v), HH I2 x1 y1)) : aGo cl (some (L, xs)) cd_law 1 1462 (lwLs i) [] (HH I x y) = aGo cl (some (L, xs)) cd_law 1 1485 (lwLs i) [] (HH I2 x1 y1) := by
  simp [w_40, aILoad, aRLoad, aLLoad, aIStore, aRStore, aPush, aBin, aBinL, aShL, aUn, aIf, aIc, aGet, aPut, aBald, aAald, aIast, aBast, aAast, aAlen, aCopy, aCallV, aCallC, aCallI, aRet, aCat, aMax, aMin, aDiv, aRem, aI2l, aL2i, aNul, aSwS, aSw, aInc, aDup, aDup2, aPop1, aIret, aAret, aVret, aLen, aFk, aFT, Value.category, c_sh, m_sh, lw_l hi hL, h1, h2]
