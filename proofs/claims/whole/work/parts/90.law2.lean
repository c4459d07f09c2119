/-! THE LAW: more cases (by program gen89.py) -/
theorem w_14 {cl : Nat → List Value → aH → aRs} {L : Nat} {xs : Nat → Int32} : (∀ ls st H, aGo cl (some (L, xs)) cd_law 1 724 ls st H = aRLoad (fun st => aGo cl (some (L, xs)) cd_law 1 725 ls st H) ls 1 st) ∧
  (∀ ls st H, aGo cl (some (L, xs)) cd_law 1 725 ls st H = aRLoad (fun st => aGo cl (some (L, xs)) cd_law 1 726 ls st H) ls 0 st) ∧
  (∀ ls st H, aGo cl (some (L, xs)) cd_law 1 726 ls st H = aILoad (fun st => aGo cl (some (L, xs)) cd_law 1 727 ls st H) ls 3 st) ∧
  (∀ ls st H, aGo cl (some (L, xs)) cd_law 1 727 ls st H = aGo cl (some (L, xs)) cd_law 1 728 ls (.int 1 :: st) H) ∧
  (∀ ls st H, aGo cl (some (L, xs)) cd_law 1 728 ls st H = aBin (fun st => aGo cl (some (L, xs)) cd_law 1 729 ls st H) (fun x y => x + y) st) ∧
  (∀ ls st H, aGo cl (some (L, xs)) cd_law 1 729 ls st H = aIald (fun st => aGo cl (some (L, xs)) cd_law 1 730 ls st H) (some (L, xs)) H st) ∧
  (∀ ls st H, aGo cl (some (L, xs)) cd_law 1 730 ls st H = aRLoad (fun st => aGo cl (some (L, xs)) cd_law 1 731 ls st H) ls 0 st) ∧
  (∀ ls st H, aGo cl (some (L, xs)) cd_law 1 731 ls st H = aILoad (fun st => aGo cl (some (L, xs)) cd_law 1 732 ls st H) ls 3 st) ∧
  (∀ ls st H, aGo cl (some (L, xs)) cd_law 1 732 ls st H = aGo cl (some (L, xs)) cd_law 1 733 ls (.int 2 :: st) H) ∧
  (∀ ls st H, aGo cl (some (L, xs)) cd_law 1 733 ls st H = aBin (fun st => aGo cl (some (L, xs)) cd_law 1 734 ls st H) (fun x y => x + y) st) ∧
  (∀ ls st H, aGo cl (some (L, xs)) cd_law 1 734 ls st H = aIald (fun st => aGo cl (some (L, xs)) cd_law 1 735 ls st H) (some (L, xs)) H st) ∧
  (∀ ls st H, aGo cl (some (L, xs)) cd_law 1 735 ls st H = aCallV (fun st H => aGo cl (some (L, xs)) cd_law 1 738 ls st H) cl 78 2 7 H st) ∧
  (∀ ls st H, aGo cl (some (L, xs)) cd_law 1 738 ls st H = aRLoad (fun st => aGo cl (some (L, xs)) cd_law 1 739 ls st H) ls 2 st) ∧
  (∀ ls st H, aGo cl (some (L, xs)) cd_law 1 739 ls st H = aRLoad (fun st => aGo cl (some (L, xs)) cd_law 1 740 ls st H) ls 0 st) ∧
  (∀ ls st H, aGo cl (some (L, xs)) cd_law 1 740 ls st H = aILoad (fun st => aGo cl (some (L, xs)) cd_law 1 741 ls st H) ls 3 st) ∧
  (∀ ls st H, aGo cl (some (L, xs)) cd_law 1 741 ls st H = aGo cl (some (L, xs)) cd_law 1 742 ls (.int 1 :: st) H) ∧
  (∀ ls st H, aGo cl (some (L, xs)) cd_law 1 742 ls st H = aBin (fun st => aGo cl (some (L, xs)) cd_law 1 743 ls st H) (fun x y => x + y) st) ∧
  (∀ ls st H, aGo cl (some (L, xs)) cd_law 1 743 ls st H = aIald (fun st => aGo cl (some (L, xs)) cd_law 1 744 ls st H) (some (L, xs)) H st) ∧
  (∀ ls st H, aGo cl (some (L, xs)) cd_law 1 744 ls st H = aRLoad (fun st => aGo cl (some (L, xs)) cd_law 1 745 ls st H) ls 0 st) ∧
  (∀ ls st H, aGo cl (some (L, xs)) cd_law 1 745 ls st H = aILoad (fun st => aGo cl (some (L, xs)) cd_law 1 746 ls st H) ls 3 st) ∧
  (∀ ls st H, aGo cl (some (L, xs)) cd_law 1 746 ls st H = aGo cl (some (L, xs)) cd_law 1 747 ls (.int 2 :: st) H) ∧
  (∀ ls st H, aGo cl (some (L, xs)) cd_law 1 747 ls st H = aBin (fun st => aGo cl (some (L, xs)) cd_law 1 748 ls st H) (fun x y => x + y) st) ∧
  (∀ ls st H, aGo cl (some (L, xs)) cd_law 1 748 ls st H = aIald (fun st => aGo cl (some (L, xs)) cd_law 1 749 ls st H) (some (L, xs)) H st) ∧
  (∀ ls st H, aGo cl (some (L, xs)) cd_law 1 749 ls st H = aCallV (fun st H => aGo cl (some (L, xs)) cd_law 1 752 ls st H) cl 177 2 8 H st) ∧
  (∀ ls st H, aGo cl (some (L, xs)) cd_law 1 752 ls st H = aIc (fun p st => aGo cl (some (L, xs)) cd_law 1 p ls st H) .eq 1485 755 st) :=
  ⟨fun _ _ _ => (aGo_s rfl).trans rfl, fun _ _ _ => (aGo_s rfl).trans rfl, fun _ _ _ => (aGo_s rfl).trans rfl, fun _ _ _ => (aGo_s rfl).trans rfl, fun _ _ _ => (aGo_s rfl).trans rfl, fun _ _ _ => (aGo_s rfl).trans rfl, fun _ _ _ => (aGo_s rfl).trans rfl, fun _ _ _ => (aGo_s rfl).trans rfl, fun _ _ _ => (aGo_s rfl).trans rfl, fun _ _ _ => (aGo_s rfl).trans rfl, fun _ _ _ => (aGo_s rfl).trans rfl, fun _ _ _ => (aGo_s rfl).trans rfl, fun _ _ _ => (aGo_s rfl).trans rfl, fun _ _ _ => (aGo_s rfl).trans rfl, fun _ _ _ => (aGo_s rfl).trans rfl, fun _ _ _ => (aGo_s rfl).trans rfl, fun _ _ _ => (aGo_s rfl).trans rfl, fun _ _ _ => (aGo_s rfl).trans rfl, fun _ _ _ => (aGo_s rfl).trans rfl, fun _ _ _ => (aGo_s rfl).trans rfl, fun _ _ _ => (aGo_s rfl).trans rfl, fun _ _ _ => (aGo_s rfl).trans rfl, fun _ _ _ => (aGo_s rfl).trans rfl, fun _ _ _ => (aGo_s rfl).trans rfl, fun _ _ _ => (aGo_s rfl).trans rfl⟩
theorem lw_14 {cl : Nat → List Value → aH → aRs} {L i : Nat} {xs : Nat → Int32} {I I1 I2 : Nat → Nat → Int32} {x y x1 y1 : Option Nat} {v : Int32} (hi : i + 6 ≤ L) (hL : L ≤ 3072) (h1 : cl 78 [.ref 0, .int (xs (i + 1)), .int (xs (i + 2))] (HH I x y) = some (some (.int v), HH I1 x1 y1)) (h2 : cl 177 [.ref 113, .int (xs (i + 1)), .int (xs (i + 2))] (HH I1 x1 y1) = some (some (.int v), HH I2 x1 y1)) : aGo cl (some (L, xs)) cd_law 1 724 (lwLs i) [] (HH I x y) = aGo cl (some (L, xs)) cd_law 1 1485 (lwLs i) [] (HH I2 x1 y1) := by
  simp [w_14, aILoad, aRLoad, aLLoad, aIStore, aRStore, aPush, aBin, aBinL, aShL, aUn, aIf, aIc, aGet, aPut, aBald, aAald, aIast, aBast, aAast, aAlen, aCopy, aCallV, aCallC, aCallI, aRet, aCat, aMax, aMin, aDiv, aRem, aI2l, aL2i, aNul, aSwS, aSw, aInc, aDup, aDup2, aPop1, aIret, aAret, aVret, aLen, aFk, aFT, Value.category, c_sh, m_sh, lw_l hi hL, h1, h2]
theorem w_15 {cl : Nat → List Value → aH → aRs} {L : Nat} {xs : Nat → Int32} : (∀ ls st H, aGo cl (some (L, xs)) cd_law 1 757 ls st H = aRLoad (fun st => aGo cl (some (L, xs)) cd_law 1 758 ls st H) ls 1 st) ∧
  (∀ ls st H, aGo cl (some (L, xs)) cd_law 1 758 ls st H = aRLoad (fun st => aGo cl (some (L, xs)) cd_law 1 759 ls st H) ls 0 st) ∧
  (∀ ls st H, aGo cl (some (L, xs)) cd_law 1 759 ls st H = aILoad (fun st => aGo cl (some (L, xs)) cd_law 1 760 ls st H) ls 3 st) ∧
  (∀ ls st H, aGo cl (some (L, xs)) cd_law 1 760 ls st H = aGo cl (some (L, xs)) cd_law 1 761 ls (.int 1 :: st) H) ∧
  (∀ ls st H, aGo cl (some (L, xs)) cd_law 1 761 ls st H = aBin (fun st => aGo cl (some (L, xs)) cd_law 1 762 ls st H) (fun x y => x + y) st) ∧
  (∀ ls st H, aGo cl (some (L, xs)) cd_law 1 762 ls st H = aIald (fun st => aGo cl (some (L, xs)) cd_law 1 763 ls st H) (some (L, xs)) H st) ∧
  (∀ ls st H, aGo cl (some (L, xs)) cd_law 1 763 ls st H = aRLoad (fun st => aGo cl (some (L, xs)) cd_law 1 764 ls st H) ls 0 st) ∧
  (∀ ls st H, aGo cl (some (L, xs)) cd_law 1 764 ls st H = aILoad (fun st => aGo cl (some (L, xs)) cd_law 1 765 ls st H) ls 3 st) ∧
  (∀ ls st H, aGo cl (some (L, xs)) cd_law 1 765 ls st H = aGo cl (some (L, xs)) cd_law 1 766 ls (.int 2 :: st) H) ∧
  (∀ ls st H, aGo cl (some (L, xs)) cd_law 1 766 ls st H = aBin (fun st => aGo cl (some (L, xs)) cd_law 1 767 ls st H) (fun x y => x + y) st) ∧
  (∀ ls st H, aGo cl (some (L, xs)) cd_law 1 767 ls st H = aIald (fun st => aGo cl (some (L, xs)) cd_law 1 768 ls st H) (some (L, xs)) H st) ∧
  (∀ ls st H, aGo cl (some (L, xs)) cd_law 1 768 ls st H = aCallV (fun st H => aGo cl (some (L, xs)) cd_law 1 771 ls st H) cl 79 2 7 H st) ∧
  (∀ ls st H, aGo cl (some (L, xs)) cd_law 1 771 ls st H = aRLoad (fun st => aGo cl (some (L, xs)) cd_law 1 772 ls st H) ls 2 st) ∧
  (∀ ls st H, aGo cl (some (L, xs)) cd_law 1 772 ls st H = aRLoad (fun st => aGo cl (some (L, xs)) cd_law 1 773 ls st H) ls 0 st) ∧
  (∀ ls st H, aGo cl (some (L, xs)) cd_law 1 773 ls st H = aILoad (fun st => aGo cl (some (L, xs)) cd_law 1 774 ls st H) ls 3 st) ∧
  (∀ ls st H, aGo cl (some (L, xs)) cd_law 1 774 ls st H = aGo cl (some (L, xs)) cd_law 1 775 ls (.int 1 :: st) H) ∧
  (∀ ls st H, aGo cl (some (L, xs)) cd_law 1 775 ls st H = aBin (fun st => aGo cl (some (L, xs)) cd_law 1 776 ls st H) (fun x y => x + y) st) ∧
  (∀ ls st H, aGo cl (some (L, xs)) cd_law 1 776 ls st H = aIald (fun st => aGo cl (some (L, xs)) cd_law 1 777 ls st H) (some (L, xs)) H st) ∧
  (∀ ls st H, aGo cl (some (L, xs)) cd_law 1 777 ls st H = aRLoad (fun st => aGo cl (some (L, xs)) cd_law 1 778 ls st H) ls 0 st) ∧
  (∀ ls st H, aGo cl (some (L, xs)) cd_law 1 778 ls st H = aILoad (fun st => aGo cl (some (L, xs)) cd_law 1 779 ls st H) ls 3 st) ∧
  (∀ ls st H, aGo cl (some (L, xs)) cd_law 1 779 ls st H = aGo cl (some (L, xs)) cd_law 1 780 ls (.int 2 :: st) H) ∧
  (∀ ls st H, aGo cl (some (L, xs)) cd_law 1 780 ls st H = aBin (fun st => aGo cl (some (L, xs)) cd_law 1 781 ls st H) (fun x y => x + y) st) ∧
  (∀ ls st H, aGo cl (some (L, xs)) cd_law 1 781 ls st H = aIald (fun st => aGo cl (some (L, xs)) cd_law 1 782 ls st H) (some (L, xs)) H st) ∧
  (∀ ls st H, aGo cl (some (L, xs)) cd_law 1 782 ls st H = aCallV (fun st H => aGo cl (some (L, xs)) cd_law 1 785 ls st H) cl 178 2 8 H st) ∧
  (∀ ls st H, aGo cl (some (L, xs)) cd_law 1 785 ls st H = aIc (fun p st => aGo cl (some (L, xs)) cd_law 1 p ls st H) .eq 1485 788 st) :=
  ⟨fun _ _ _ => (aGo_s rfl).trans rfl, fun _ _ _ => (aGo_s rfl).trans rfl, fun _ _ _ => (aGo_s rfl).trans rfl, fun _ _ _ => (aGo_s rfl).trans rfl, fun _ _ _ => (aGo_s rfl).trans rfl, fun _ _ _ => (aGo_s rfl).trans rfl, fun _ _ _ => (aGo_s rfl).trans rfl, fun _ _ _ => (aGo_s rfl).trans rfl, fun _ _ _ => (aGo_s rfl).trans rfl, fun _ _ _ => (aGo_s rfl).trans rfl, fun _ _ _ => (aGo_s rfl).trans rfl, fun _ _ _ => (aGo_s rfl).trans rfl, fun _ _ _ => (aGo_s rfl).trans rfl, fun _ _ _ => (aGo_s rfl).trans rfl, fun _ _ _ => (aGo_s rfl).trans rfl, fun _ _ _ => (aGo_s rfl).trans rfl, fun _ _ _ => (aGo_s rfl).trans rfl, fun _ _ _ => (aGo_s rfl).trans rfl, fun _ _ _ => (aGo_s rfl).trans rfl, fun _ _ _ => (aGo_s rfl).trans rfl, fun _ _ _ => (aGo_s rfl).trans rfl, fun _ _ _ => (aGo_s rfl).trans rfl, fun _ _ _ => (aGo_s rfl).trans rfl, fun _ _ _ => (aGo_s rfl).trans rfl, fun _ _ _ => (aGo_s rfl).trans rfl⟩
theorem lw_15 {cl : Nat → List Value → aH → aRs} {L i : Nat} {xs : Nat → Int32} {I I1 I2 : Nat → Nat → Int32} {x y x1 y1 : Option Nat} {v : Int32} (hi : i + 6 ≤ L) (hL : L ≤ 3072) (h1 : cl 79 [.ref 0, .int (xs (i + 1)), .int (xs (i + 2))] (HH I x y) = some (some (.int v), HH I1 x1 y1)) (h2 : cl 178 [.ref 113, .int (xs (i + 1)), .int (xs (i + 2))] (HH I1 x1 y1) = some (some (.int v), HH I2 x1 y1)) : aGo cl (some (L, xs)) cd_law 1 757 (lwLs i) [] (HH I x y) = aGo cl (some (L, xs)) cd_law 1 1485 (lwLs i) [] (HH I2 x1 y1) := by
  simp [w_15, aILoad, aRLoad, aLLoad, aIStore, aRStore, aPush, aBin, aBinL, aShL, aUn, aIf, aIc, aGet, aPut, aBald, aAald, aIast, aBast, aAast, aAlen, aCopy, aCallV, aCallC, aCallI, aRet, aCat, aMax, aMin, aDiv, aRem, aI2l, aL2i, aNul, aSwS, aSw, aInc, aDup, aDup2, aPop1, aIret, aAret, aVret, aLen, aFk, aFT, Value.category, c_sh, m_sh, lw_l hi hL, h1, h2]
theorem w_16 {cl : Nat → List Value → aH → aRs} {L : Nat} {xs : Nat → Int32} : (∀ ls st H, aGo cl (some (L, xs)) cd_law 1 790 ls st H = aRLoad (fun st => aGo cl (some (L, xs)) cd_law 1 791 ls st H) ls 1 st) ∧
  (∀ ls st H, aGo cl (some (L, xs)) cd_law 1 791 ls st H = aRLoad (fun st => aGo cl (some (L, xs)) cd_law 1 792 ls st H) ls 0 st) ∧
  (∀ ls st H, aGo cl (some (L, xs)) cd_law 1 792 ls st H = aILoad (fun st => aGo cl (some (L, xs)) cd_law 1 793 ls st H) ls 3 st) ∧
  (∀ ls st H, aGo cl (some (L, xs)) cd_law 1 793 ls st H = aGo cl (some (L, xs)) cd_law 1 794 ls (.int 1 :: st) H) ∧
  (∀ ls st H, aGo cl (some (L, xs)) cd_law 1 794 ls st H = aBin (fun st => aGo cl (some (L, xs)) cd_law 1 795 ls st H) (fun x y => x + y) st) ∧
  (∀ ls st H, aGo cl (some (L, xs)) cd_law 1 795 ls st H = aIald (fun st => aGo cl (some (L, xs)) cd_law 1 796 ls st H) (some (L, xs)) H st) ∧
  (∀ ls st H, aGo cl (some (L, xs)) cd_law 1 796 ls st H = aCallV (fun st H => aGo cl (some (L, xs)) cd_law 1 799 ls st H) cl 80 1 7 H st) ∧
  (∀ ls st H, aGo cl (some (L, xs)) cd_law 1 799 ls st H = aRLoad (fun st => aGo cl (some (L, xs)) cd_law 1 800 ls st H) ls 2 st) ∧
  (∀ ls st H, aGo cl (some (L, xs)) cd_law 1 800 ls st H = aRLoad (fun st => aGo cl (some (L, xs)) cd_law 1 801 ls st H) ls 0 st) ∧
  (∀ ls st H, aGo cl (some (L, xs)) cd_law 1 801 ls st H = aILoad (fun st => aGo cl (some (L, xs)) cd_law 1 802 ls st H) ls 3 st) ∧
  (∀ ls st H, aGo cl (some (L, xs)) cd_law 1 802 ls st H = aGo cl (some (L, xs)) cd_law 1 803 ls (.int 1 :: st) H) ∧
  (∀ ls st H, aGo cl (some (L, xs)) cd_law 1 803 ls st H = aBin (fun st => aGo cl (some (L, xs)) cd_law 1 804 ls st H) (fun x y => x + y) st) ∧
  (∀ ls st H, aGo cl (some (L, xs)) cd_law 1 804 ls st H = aIald (fun st => aGo cl (some (L, xs)) cd_law 1 805 ls st H) (some (L, xs)) H st) ∧
  (∀ ls st H, aGo cl (some (L, xs)) cd_law 1 805 ls st H = aCallV (fun st H => aGo cl (some (L, xs)) cd_law 1 808 ls st H) cl 179 1 8 H st) ∧
  (∀ ls st H, aGo cl (some (L, xs)) cd_law 1 808 ls st H = aIc (fun p st => aGo cl (some (L, xs)) cd_law 1 p ls st H) .eq 1485 811 st) :=
  ⟨fun _ _ _ => (aGo_s rfl).trans rfl, fun _ _ _ => (aGo_s rfl).trans rfl, fun _ _ _ => (aGo_s rfl).trans rfl, fun _ _ _ => (aGo_s rfl).trans rfl, fun _ _ _ => (aGo_s rfl).trans rfl, fun _ _ _ => (aGo_s rfl).trans rfl, fun _ _ _ => (aGo_s rfl).trans rfl, fun _ _ _ => (aGo_s rfl).trans rfl, fun _ _ _ => (aGo_s rfl).trans rfl, fun _ _ _ => (aGo_s rfl).trans rfl, fun _ _ _ => (aGo_s rfl).trans rfl, fun _ _ _ => (aGo_s rfl).trans rfl, fun _ _ _ => (aGo_s rfl).trans rfl, fun _ _ _ => (aGo_s rfl).trans rfl, fun _ _ _ => (aGo_s rfl).trans rfl⟩
theorem lw_16 {cl : Nat → List Value → aH → aRs} {L i : Nat} {xs : Nat → Int32} {I I1 I2 : Nat → Nat → Int32} {x y x1 y1 : Option Nat} {v : Int32} (hi : i + 6 ≤ L) (hL : L ≤ 3072) (h1 : cl 80 [.ref 0, .int (xs (i + 1))] (HH I x y) = some (some (.int v), HH I1 x1 y1)) (h2 : cl 179 [.ref 113, .int (xs (i + 1))] (HH I1 x1 y1) = some (some (.int v), HH I2 x1 y1)) : aGo cl (some (L, xs)) cd_law 1 790 (lwLs i) [] (HH I x y) = aGo cl (some (L, xs)) cd_law 1 1485 (lwLs i) [] (HH I2 x1 y1) := by
  simp [w_16, aILoad, aRLoad, aLLoad, aIStore, aRStore, aPush, aBin, aBinL, aShL, aUn, aIf, aIc, aGet, aPut, aBald, aAald, aIast, aBast, aAast, aAlen, aCopy, aCallV, aCallC, aCallI, aRet, aCat, aMax, aMin, aDiv, aRem, aI2l, aL2i, aNul, aSwS, aSw, aInc, aDup, aDup2, aPop1, aIret, aAret, aVret, aLen, aFk, aFT, Value.category, c_sh, m_sh, lw_l hi hL, h1, h2]
theorem w_17 {cl : Nat → List Value → aH → aRs} {L : Nat} {xs : Nat → Int32} : (∀ ls st H, aGo cl (some (L, xs)) cd_law 1 813 ls st H = aRLoad (fun st => aGo cl (some (L, xs)) cd_law 1 814 ls st H) ls 1 st) ∧
  (∀ ls st H, aGo cl (some (L, xs)) cd_law 1 814 ls st H = aRLoad (fun st => aGo cl (some (L, xs)) cd_law 1 815 ls st H) ls 0 st) ∧
  (∀ ls st H, aGo cl (some (L, xs)) cd_law 1 815 ls st H = aILoad (fun st => aGo cl (some (L, xs)) cd_law 1 816 ls st H) ls 3 st) ∧
  (∀ ls st H, aGo cl (some (L, xs)) cd_law 1 816 ls st H = aGo cl (some (L, xs)) cd_law 1 817 ls (.int 1 :: st) H) ∧
  (∀ ls st H, aGo cl (some (L, xs)) cd_law 1 817 ls st H = aBin (fun st => aGo cl (some (L, xs)) cd_law 1 818 ls st H) (fun x y => x + y) st) ∧
  (∀ ls st H, aGo cl (some (L, xs)) cd_law 1 818 ls st H = aIald (fun st => aGo cl (some (L, xs)) cd_law 1 819 ls st H) (some (L, xs)) H st) ∧
  (∀ ls st H, aGo cl (some (L, xs)) cd_law 1 819 ls st H = aCallV (fun st H => aGo cl (some (L, xs)) cd_law 1 822 ls st H) cl 81 1 7 H st) ∧
  (∀ ls st H, aGo cl (some (L, xs)) cd_law 1 822 ls st H = aRLoad (fun st => aGo cl (some (L, xs)) cd_law 1 823 ls st H) ls 2 st) ∧
  (∀ ls st H, aGo cl (some (L, xs)) cd_law 1 823 ls st H = aRLoad (fun st => aGo cl (some (L, xs)) cd_law 1 824 ls st H) ls 0 st) ∧
  (∀ ls st H, aGo cl (some (L, xs)) cd_law 1 824 ls st H = aILoad (fun st => aGo cl (some (L, xs)) cd_law 1 825 ls st H) ls 3 st) ∧
  (∀ ls st H, aGo cl (some (L, xs)) cd_law 1 825 ls st H = aGo cl (some (L, xs)) cd_law 1 826 ls (.int 1 :: st) H) ∧
  (∀ ls st H, aGo cl (some (L, xs)) cd_law 1 826 ls st H = aBin (fun st => aGo cl (some (L, xs)) cd_law 1 827 ls st H) (fun x y => x + y) st) ∧
  (∀ ls st H, aGo cl (some (L, xs)) cd_law 1 827 ls st H = aIald (fun st => aGo cl (some (L, xs)) cd_law 1 828 ls st H) (some (L, xs)) H st) ∧
  (∀ ls st H, aGo cl (some (L, xs)) cd_law 1 828 ls st H = aCallV (fun st H => aGo cl (some (L, xs)) cd_law 1 831 ls st H) cl 180 1 8 H st) ∧
  (∀ ls st H, aGo cl (some (L, xs)) cd_law 1 831 ls st H = aIc (fun p st => aGo cl (some (L, xs)) cd_law 1 p ls st H) .eq 1485 834 st) :=
  ⟨fun _ _ _ => (aGo_s rfl).trans rfl, fun _ _ _ => (aGo_s rfl).trans rfl, fun _ _ _ => (aGo_s rfl).trans rfl, fun _ _ _ => (aGo_s rfl).trans rfl, fun _ _ _ => (aGo_s rfl).trans rfl, fun _ _ _ => (aGo_s rfl).trans rfl, fun _ _ _ => (aGo_s rfl).trans rfl, fun _ _ _ => (aGo_s rfl).trans rfl, fun _ _ _ => (aGo_s rfl).trans rfl, fun _ _ _ => (aGo_s rfl).trans rfl, fun _ _ _ => (aGo_s rfl).trans rfl, fun _ _ _ => (aGo_s rfl).trans rfl, fun _ _ _ => (aGo_s rfl).trans rfl, fun _ _ _ => (aGo_s rfl).trans rfl, fun _ _ _ => (aGo_s rfl).trans rfl⟩
theorem lw_17 {cl : Nat → List Value → aH → aRs} {L i : Nat} {xs : Nat → Int32} {I I1 I2 : Nat → Nat → Int32} {x y x1 y1 : Option Nat} {v : Int32} (hi : i + 6 ≤ L) (hL : L ≤ 3072) (h1 : cl 81 [.ref 0, .int (xs (i + 1))] (HH I x y) = some (some (.int v), HH I1 x1 y1)) (h2 : cl 180 [.ref 113, .int (xs (i + 1))] (HH I1 x1 y1) = some (some (.int v), HH I2 x1 y1)) : aGo cl (some (L, xs)) cd_law 1 813 (lwLs i) [] (HH I x y) = aGo cl (some (L, xs)) cd_law 1 1485 (lwLs i) [] (HH I2 x1 y1) := by
  simp [w_17, aILoad, aRLoad, aLLoad, aIStore, aRStore, aPush, aBin, aBinL, aShL, aUn, aIf, aIc, aGet, aPut, aBald, aAald, aIast, aBast, aAast, aAlen, aCopy, aCallV, aCallC, aCallI, aRet, aCat, aMax, aMin, aDiv, aRem, aI2l, aL2i, aNul, aSwS, aSw, aInc, aDup, aDup2, aPop1, aIret, aAret, aVret, aLen, aFk, aFT, Value.category, c_sh, m_sh, lw_l hi hL, h1, h2]
theorem w_18 {cl : Nat → List Value → aH → aRs} {L : Nat} {xs : Nat → Int32} : (∀ ls st H, aGo cl (some (L, xs)) cd_law 1 836 ls st H = aRLoad (fun st => aGo cl (some (L, xs)) cd_law 1 837 ls st H) ls 1 st) ∧
  (∀ ls st H, aGo cl (some (L, xs)) cd_law 1 837 ls st H = aRLoad (fun st => aGo cl (some (L, xs)) cd_law 1 838 ls st H) ls 0 st) ∧
  (∀ ls st H, aGo cl (some (L, xs)) cd_law 1 838 ls st H = aILoad (fun st => aGo cl (some (L, xs)) cd_law 1 839 ls st H) ls 3 st) ∧
  (∀ ls st H, aGo cl (some (L, xs)) cd_law 1 839 ls st H = aGo cl (some (L, xs)) cd_law 1 840 ls (.int 1 :: st) H) ∧
  (∀ ls st H, aGo cl (some (L, xs)) cd_law 1 840 ls st H = aBin (fun st => aGo cl (some (L, xs)) cd_law 1 841 ls st H) (fun x y => x + y) st) ∧
  (∀ ls st H, aGo cl (some (L, xs)) cd_law 1 841 ls st H = aIald (fun st => aGo cl (some (L, xs)) cd_law 1 842 ls st H) (some (L, xs)) H st) ∧
  (∀ ls st H, aGo cl (some (L, xs)) cd_law 1 842 ls st H = aCallV (fun st H => aGo cl (some (L, xs)) cd_law 1 845 ls st H) cl 82 1 7 H st) ∧
  (∀ ls st H, aGo cl (some (L, xs)) cd_law 1 845 ls st H = aRLoad (fun st => aGo cl (some (L, xs)) cd_law 1 846 ls st H) ls 2 st) ∧
  (∀ ls st H, aGo cl (some (L, xs)) cd_law 1 846 ls st H = aRLoad (fun st => aGo cl (some (L, xs)) cd_law 1 847 ls st H) ls 0 st) ∧
  (∀ ls st H, aGo cl (some (L, xs)) cd_law 1 847 ls st H = aILoad (fun st => aGo cl (some (L, xs)) cd_law 1 848 ls st H) ls 3 st) ∧
  (∀ ls st H, aGo cl (some (L, xs)) cd_law 1 848 ls st H = aGo cl (some (L, xs)) cd_law 1 849 ls (.int 1 :: st) H) ∧
  (∀ ls st H, aGo cl (some (L, xs)) cd_law 1 849 ls st H = aBin (fun st => aGo cl (some (L, xs)) cd_law 1 850 ls st H) (fun x y => x + y) st) ∧
  (∀ ls st H, aGo cl (some (L, xs)) cd_law 1 850 ls st H = aIald (fun st => aGo cl (some (L, xs)) cd_law 1 851 ls st H) (some (L, xs)) H st) ∧
  (∀ ls st H, aGo cl (some (L, xs)) cd_law 1 851 ls st H = aCallV (fun st H => aGo cl (some (L, xs)) cd_law 1 854 ls st H) cl 181 1 8 H st) ∧
  (∀ ls st H, aGo cl (some (L, xs)) cd_law 1 854 ls st H = aIc (fun p st => aGo cl (some (L, xs)) cd_law 1 p ls st H) .eq 1485 857 st) :=
  ⟨fun _ _ _ => (aGo_s rfl).trans rfl, fun _ _ _ => (aGo_s rfl).trans rfl, fun _ _ _ => (aGo_s rfl).trans rfl, fun _ _ _ => (aGo_s rfl).trans rfl, fun _ _ _ => (aGo_s rfl).trans rfl, fun _ _ _ => (aGo_s rfl).trans rfl, fun _ _ _ => (aGo_s rfl).trans rfl, fun _ _ _ => (aGo_s rfl).trans rfl, fun _ _ _ => (aGo_s rfl).trans rfl, fun _ _ _ => (aGo_s rfl).trans rfl, fun _ _ _ => (aGo_s rfl).trans rfl, fun _ _ _ => (aGo_s rfl).trans rfl, fun _ _ _ => (aGo_s rfl).trans rfl, fun _ _ _ => (aGo_s rfl).trans rfl, fun _ _ _ => (aGo_s rfl).trans rfl⟩
theorem lw_18 {cl : Nat → List Value → aH → aRs} {L i : Nat} {xs : Nat → Int32} {I I1 I2 : Nat → Nat → Int32} {x y x1 y1 : Option Nat} {v : Int32} (hi : i + 6 ≤ L) (hL : L ≤ 3072) (h1 : cl 82 [.ref 0, .int (xs (i + 1))] (HH I x y) = some (some (.int v), HH I1 x1 y1)) (h2 : cl 181 [.ref 113, .int (xs (i + 1))] (HH I1 x1 y1) = some (some (.int v), HH I2 x1 y1)) : aGo cl (some (L, xs)) cd_law 1 836 (lwLs i) [] (HH I x y) = aGo cl (some (L, xs)) cd_law 1 1485 (lwLs i) [] (HH I2 x1 y1) := by
  simp [w_18, aILoad, aRLoad, aLLoad, aIStore, aRStore, aPush, aBin, aBinL, aShL, aUn, aIf, aIc, aGet, aPut, aBald, aAald, aIast, aBast, aAast, aAlen, aCopy, aCallV, aCallC, aCallI, aRet, aCat, aMax, aMin, aDiv, aRem, aI2l, aL2i, aNul, aSwS, aSw, aInc, aDup, aDup2, aPop1, aIret, aAret, aVret, aLen, aFk, aFT, Value.category, c_sh, m_sh, lw_l hi hL, h1, h2]
theorem w_19 {cl : Nat → List Value → aH → aRs} {L : Nat} {xs : Nat → Int32} : (∀ ls st H, aGo cl (some (L, xs)) cd_law 1 859 ls st H = aRLoad (fun st => aGo cl (some (L, xs)) cd_law 1 860 ls st H) ls 1 st) ∧
  (∀ ls st H, aGo cl (some (L, xs)) cd_law 1 860 ls st H = aRLoad (fun st => aGo cl (some (L, xs)) cd_law 1 861 ls st H) ls 0 st) ∧
  (∀ ls st H, aGo cl (some (L, xs)) cd_law 1 861 ls st H = aILoad (fun st => aGo cl (some (L, xs)) cd_law 1 862 ls st H) ls 3 st) ∧
  (∀ ls st H, aGo cl (some (L, xs)) cd_law 1 862 ls st H = aGo cl (some (L, xs)) cd_law 1 863 ls (.int 1 :: st) H) ∧
  (∀ ls st H, aGo cl (some (L, xs)) cd_law 1 863 ls st H = aBin (fun st => aGo cl (some (L, xs)) cd_law 1 864 ls st H) (fun x y => x + y) st) ∧
  (∀ ls st H, aGo cl (some (L, xs)) cd_law 1 864 ls st H = aIald (fun st => aGo cl (some (L, xs)) cd_law 1 865 ls st H) (some (L, xs)) H st) ∧
  (∀ ls st H, aGo cl (some (L, xs)) cd_law 1 865 ls st H = aRLoad (fun st => aGo cl (some (L, xs)) cd_law 1 866 ls st H) ls 0 st) ∧
  (∀ ls st H, aGo cl (some (L, xs)) cd_law 1 866 ls st H = aILoad (fun st => aGo cl (some (L, xs)) cd_law 1 867 ls st H) ls 3 st) ∧
  (∀ ls st H, aGo cl (some (L, xs)) cd_law 1 867 ls st H = aGo cl (some (L, xs)) cd_law 1 868 ls (.int 2 :: st) H) ∧
  (∀ ls st H, aGo cl (some (L, xs)) cd_law 1 868 ls st H = aBin (fun st => aGo cl (some (L, xs)) cd_law 1 869 ls st H) (fun x y => x + y) st) ∧
  (∀ ls st H, aGo cl (some (L, xs)) cd_law 1 869 ls st H = aIald (fun st => aGo cl (some (L, xs)) cd_law 1 870 ls st H) (some (L, xs)) H st) ∧
  (∀ ls st H, aGo cl (some (L, xs)) cd_law 1 870 ls st H = aRLoad (fun st => aGo cl (some (L, xs)) cd_law 1 871 ls st H) ls 0 st) ∧
  (∀ ls st H, aGo cl (some (L, xs)) cd_law 1 871 ls st H = aILoad (fun st => aGo cl (some (L, xs)) cd_law 1 872 ls st H) ls 3 st) ∧
  (∀ ls st H, aGo cl (some (L, xs)) cd_law 1 872 ls st H = aGo cl (some (L, xs)) cd_law 1 873 ls (.int 3 :: st) H) ∧
  (∀ ls st H, aGo cl (some (L, xs)) cd_law 1 873 ls st H = aBin (fun st => aGo cl (some (L, xs)) cd_law 1 874 ls st H) (fun x y => x + y) st) ∧
  (∀ ls st H, aGo cl (some (L, xs)) cd_law 1 874 ls st H = aIald (fun st => aGo cl (some (L, xs)) cd_law 1 875 ls st H) (some (L, xs)) H st) ∧
  (∀ ls st H, aGo cl (some (L, xs)) cd_law 1 875 ls st H = aCallV (fun st H => aGo cl (some (L, xs)) cd_law 1 878 ls st H) cl 83 3 7 H st) ∧
  (∀ ls st H, aGo cl (some (L, xs)) cd_law 1 878 ls st H = aRLoad (fun st => aGo cl (some (L, xs)) cd_law 1 879 ls st H) ls 2 st) ∧
  (∀ ls st H, aGo cl (some (L, xs)) cd_law 1 879 ls st H = aRLoad (fun st => aGo cl (some (L, xs)) cd_law 1 880 ls st H) ls 0 st) ∧
  (∀ ls st H, aGo cl (some (L, xs)) cd_law 1 880 ls st H = aILoad (fun st => aGo cl (some (L, xs)) cd_law 1 881 ls st H) ls 3 st) ∧
  (∀ ls st H, aGo cl (some (L, xs)) cd_law 1 881 ls st H = aGo cl (some (L, xs)) cd_law 1 882 ls (.int 1 :: st) H) ∧
  (∀ ls st H, aGo cl (some (L, xs)) cd_law 1 882 ls st H = aBin (fun st => aGo cl (some (L, xs)) cd_law 1 883 ls st H) (fun x y => x + y) st) ∧
  (∀ ls st H, aGo cl (some (L, xs)) cd_law 1 883 ls st H = aIald (fun st => aGo cl (some (L, xs)) cd_law 1 884 ls st H) (some (L, xs)) H st) ∧
  (∀ ls st H, aGo cl (some (L, xs)) cd_law 1 884 ls st H = aRLoad (fun st => aGo cl (some (L, xs)) cd_law 1 885 ls st H) ls 0 st) ∧
  (∀ ls st H, aGo cl (some (L, xs)) cd_law 1 885 ls st H = aILoad (fun st => aGo cl (some (L, xs)) cd_law 1 886 ls st H) ls 3 st) ∧
  (∀ ls st H, aGo cl (some (L, xs)) cd_law 1 886 ls st H = aGo cl (some (L, xs)) cd_law 1 887 ls (.int 2 :: st) H) ∧
  (∀ ls st H, aGo cl (some (L, xs)) cd_law 1 887 ls st H = aBin (fun st => aGo cl (some (L, xs)) cd_law 1 888 ls st H) (fun x y => x + y) st) ∧
  (∀ ls st H, aGo cl (some (L, xs)) cd_law 1 888 ls st H = aIald (fun st => aGo cl (some (L, xs)) cd_law 1 889 ls st H) (some (L, xs)) H st) ∧
  (∀ ls st H, aGo cl (some (L, xs)) cd_law 1 889 ls st H = aRLoad (fun st => aGo cl (some (L, xs)) cd_law 1 890 ls st H) ls 0 st) ∧
  (∀ ls st H, aGo cl (some (L, xs)) cd_law 1 890 ls st H = aILoad (fun st => aGo cl (some (L, xs)) cd_law 1 891 ls st H) ls 3 st) ∧
  (∀ ls st H, aGo cl (some (L, xs)) cd_law 1 891 ls st H = aGo cl (some (L, xs)) cd_law 1 892 ls (.int 3 :: st) H) ∧
  (∀ ls st H, aGo cl (some (L, xs)) cd_law 1 892 ls st H = aBin (fun st => aGo cl (some (L, xs)) cd_law 1 893 ls st H) (fun x y => x + y) st) ∧
  (∀ ls st H, aGo cl (some (L, xs)) cd_law 1 893 ls st H = aIald (fun st => aGo cl (some (L, xs)) cd_law 1 894 ls st H) (some (L, xs)) H st) ∧
  (∀ ls st H, aGo cl (some (L, xs)) cd_law 1 894 ls st H = aCallV (fun st H => aGo cl (some (L, xs)) cd_law 1 897 ls st H) cl 182 3 8 H st) ∧
  (∀ ls st H, aGo cl (some (L, xs)) cd_law 1 897 ls st H = aIc (fun p st => aGo cl (some (L, xs)) cd_law 1 p ls st H) .eq 1485 900 st) :=
  ⟨fun _ _ _ => (aGo_s rfl).trans rfl, fun _ _ _ => (aGo_s rfl).trans rfl, fun _ _ _ => (aGo_s rfl).trans rfl, fun _ _ _ => (aGo_s rfl).trans rfl, fun _ _ _ => (aGo_s rfl).trans rfl, fun _ _ _ => (aGo_s rfl).trans rfl, fun _ _ _ => (aGo_s rfl).trans rfl, fun _ _ _ => (aGo_s rfl).trans rfl, fun _ _ _ => (aGo_s rfl).trans rfl, fun _ _ _ => (aGo_s rfl).trans rfl, fun _ _ _ => (aGo_s rfl).trans rfl, fun _ _ _ => (aGo_s rfl).trans rfl, fun _ _ _ => (aGo_s rfl).trans rfl, fun _ _ _ => (aGo_s rfl).trans rfl, fun _ _ _ => (aGo_s rfl).trans rfl, fun _ _ _ => (aGo_s rfl).trans rfl, fun _ _ _ => (aGo_s rfl).trans rfl, fun _ _ _ => (aGo_s rfl).trans rfl, fun _ _ _ => (aGo_s rfl).trans rfl, fun _ _ _ => (aGo_s rfl).trans rfl, fun _ _ _ => (aGo_s rfl).trans rfl, fun _ _ _ => (aGo_s rfl).trans rfl, fun _ _ _ => (aGo_s rfl).trans rfl, fun _ _ _ => (aGo_s rfl).trans rfl, fun _ _ _ => (aGo_s rfl).trans rfl, fun _ _ _ => (aGo_s rfl).trans rfl, fun _ _ _ => (aGo_s rfl).trans rfl, fun _ _ _ => (aGo_s rfl).trans rfl, fun _ _ _ => (aGo_s rfl).trans rfl, fun _ _ _ => (aGo_s rfl).trans rfl, fun _ _ _ => (aGo_s rfl).trans rfl, fun _ _ _ => (aGo_s rfl).trans rfl, fun _ _ _ => (aGo_s rfl).trans rfl, fun _ _ _ => (aGo_s rfl).trans rfl, fun _ _ _ => (aGo_s rfl).trans rfl⟩
theorem lw_19 {cl : Nat → List Value → aH → aRs} {L i : Nat} {xs : Nat → Int32} {I I1 I2 : Nat → Nat → Int32} {x y x1 y1 : Option Nat} {v : Int32} (hi : i + 6 ≤ L) (hL : L ≤ 3072) (h1 : cl 83 [.ref 0, .int (xs (i + 1)), .int (xs (i + 2)), .int (xs (i + 3))] (HH I x y) = some (some (.int v), HH I1 x1 y1)) (h2 : cl 182 [.ref 113, .int (xs (i + 1)), .int (xs (i + 2)), .int (xs (i + 3))] (HH I1 x1 y1) = some (some (.int v), HH I2 x1 y1)) : aGo cl (some (L, xs)) cd_law 1 859 (lwLs i) [] (HH I x y) = aGo cl (some (L, xs)) cd_law 1 1485 (lwLs i) [] (HH I2 x1 y1) := by
  simp [w_19, aILoad, aRLoad, aLLoad, aIStore, aRStore, aPush, aBin, aBinL, aShL, aUn, aIf, aIc, aGet, aPut, aBald, aAald, aIast, aBast, aAast, aAlen, aCopy, aCallV, aCallC, aCallI, aRet, aCat, aMax, aMin, aDiv, aRem, aI2l, aL2i, aNul, aSwS, aSw, aInc, aDup, aDup2, aPop1, aIret, aAret, aVret, aLen, aFk, aFT, Value.category, c_sh, m_sh, lw_l hi hL, h1, h2]
theorem w_20 {cl : Nat → List Value → aH → aRs} {L : Nat} {xs : Nat → Int32} : (∀ ls st H, aGo cl (some (L, xs)) cd_law 1 902 ls st H = aRLoad (fun st => aGo cl (some (L, xs)) cd_law 1 903 ls st H) ls 1 st) ∧
  (∀ ls st H, aGo cl (some (L, xs)) cd_law 1 903 ls st H = aRLoad (fun st => aGo cl (some (L, xs)) cd_law 1 904 ls st H) ls 0 st) ∧
  (∀ ls st H, aGo cl (some (L, xs)) cd_law 1 904 ls st H = aILoad (fun st => aGo cl (some (L, xs)) cd_law 1 905 ls st H) ls 3 st) ∧
  (∀ ls st H, aGo cl (some (L, xs)) cd_law 1 905 ls st H = aGo cl (some (L, xs)) cd_law 1 906 ls (.int 1 :: st) H) ∧
  (∀ ls st H, aGo cl (some (L, xs)) cd_law 1 906 ls st H = aBin (fun st => aGo cl (some (L, xs)) cd_law 1 907 ls st H) (fun x y => x + y) st) ∧
  (∀ ls st H, aGo cl (some (L, xs)) cd_law 1 907 ls st H = aIald (fun st => aGo cl (some (L, xs)) cd_law 1 908 ls st H) (some (L, xs)) H st) ∧
  (∀ ls st H, aGo cl (some (L, xs)) cd_law 1 908 ls st H = aRLoad (fun st => aGo cl (some (L, xs)) cd_law 1 909 ls st H) ls 0 st) ∧
  (∀ ls st H, aGo cl (some (L, xs)) cd_law 1 909 ls st H = aILoad (fun st => aGo cl (some (L, xs)) cd_law 1 910 ls st H) ls 3 st) ∧
  (∀ ls st H, aGo cl (some (L, xs)) cd_law 1 910 ls st H = aGo cl (some (L, xs)) cd_law 1 911 ls (.int 2 :: st) H) ∧
  (∀ ls st H, aGo cl (some (L, xs)) cd_law 1 911 ls st H = aBin (fun st => aGo cl (some (L, xs)) cd_law 1 912 ls st H) (fun x y => x + y) st) ∧
  (∀ ls st H, aGo cl (some (L, xs)) cd_law 1 912 ls st H = aIald (fun st => aGo cl (some (L, xs)) cd_law 1 913 ls st H) (some (L, xs)) H st) ∧
  (∀ ls st H, aGo cl (some (L, xs)) cd_law 1 913 ls st H = aCallV (fun st H => aGo cl (some (L, xs)) cd_law 1 916 ls st H) cl 84 2 7 H st) ∧
  (∀ ls st H, aGo cl (some (L, xs)) cd_law 1 916 ls st H = aRLoad (fun st => aGo cl (some (L, xs)) cd_law 1 917 ls st H) ls 2 st) ∧
  (∀ ls st H, aGo cl (some (L, xs)) cd_law 1 917 ls st H = aRLoad (fun st => aGo cl (some (L, xs)) cd_law 1 918 ls st H) ls 0 st) ∧
  (∀ ls st H, aGo cl (some (L, xs)) cd_law 1 918 ls st H = aILoad (fun st => aGo cl (some (L, xs)) cd_law 1 919 ls st H) ls 3 st) ∧
  (∀ ls st H, aGo cl (some (L, xs)) cd_law 1 919 ls st H = aGo cl (some (L, xs)) cd_law 1 920 ls (.int 1 :: st) H) ∧
  (∀ ls st H, aGo cl (some (L, xs)) cd_law 1 920 ls st H = aBin (fun st => aGo cl (some (L, xs)) cd_law 1 921 ls st H) (fun x y => x + y) st) ∧
  (∀ ls st H, aGo cl (some (L, xs)) cd_law 1 921 ls st H = aIald (fun st => aGo cl (some (L, xs)) cd_law 1 922 ls st H) (some (L, xs)) H st) ∧
  (∀ ls st H, aGo cl (some (L, xs)) cd_law 1 922 ls st H = aRLoad (fun st => aGo cl (some (L, xs)) cd_law 1 923 ls st H) ls 0 st) ∧
  (∀ ls st H, aGo cl (some (L, xs)) cd_law 1 923 ls st H = aILoad (fun st => aGo cl (some (L, xs)) cd_law 1 924 ls st H) ls 3 st) ∧
  (∀ ls st H, aGo cl (some (L, xs)) cd_law 1 924 ls st H = aGo cl (some (L, xs)) cd_law 1 925 ls (.int 2 :: st) H) ∧
  (∀ ls st H, aGo cl (some (L, xs)) cd_law 1 925 ls st H = aBin (fun st => aGo cl (some (L, xs)) cd_law 1 926 ls st H) (fun x y => x + y) st) ∧
  (∀ ls st H, aGo cl (some (L, xs)) cd_law 1 926 ls st H = aIald (fun st => aGo cl (some (L, xs)) cd_law 1 927 ls st H) (some (L, xs)) H st) ∧
  (∀ ls st H, aGo cl (some (L, xs)) cd_law 1 927 ls st H = aCallV (fun st H => aGo cl (some (L, xs)) cd_law 1 930 ls st H) cl 183 2 8 H st) ∧
  (∀ ls st H, aGo cl (some (L, xs)) cd_law 1 930 ls st H = aIc (fun p st => aGo cl (some (L, xs)) cd_law 1 p ls st H) .eq 1485 933 st) :=
  ⟨fun _ _ _ => (aGo_s rfl).trans rfl, fun _ _ _ => (aGo_s rfl).trans rfl, fun _ _ _ => (aGo_s rfl).trans rfl, fun _ _ _ => (aGo_s rfl).trans rfl, fun _ _ _ => (aGo_s rfl).trans rfl, fun _ _ _ => (aGo_s rfl).trans rfl, fun _ _ _ => (aGo_s rfl).trans rfl, fun _ _ _ => (aGo_s rfl).trans rfl, fun _ _ _ => (aGo_s rfl).trans rfl, fun _ _ _ => (aGo_s rfl).trans rfl, fun _ _ _ => (aGo_s rfl).trans rfl, fun _ _ _ => (aGo_s rfl).trans rfl, fun _ _ _ => (aGo_s rfl).trans rfl, fun _ _ _ => (aGo_s rfl).trans rfl, fun _ _ _ => (aGo_s rfl).trans rfl, fun _ _ _ => (aGo_s rfl).trans rfl, fun _ _ _ => (aGo_s rfl).trans rfl, fun _ _ _ => (aGo_s rfl).trans rfl, fun _ _ _ => (aGo_s rfl).trans rfl, fun _ _ _ => (aGo_s rfl).trans rfl, fun _ _ _ => (aGo_s rfl).trans rfl, fun _ _ _ => (aGo_s rfl).trans rfl, fun _ _ _ => (aGo_s rfl).trans rfl, fun _ _ _ => (aGo_s rfl).trans rfl, fun _ _ _ => (aGo_s rfl).trans rfl⟩
theorem lw_20 {cl : Nat → List Value → aH → aRs} {L i : Nat} {xs : Nat → Int32} {I I1 I2 : Nat → Nat → Int32} {x y x1 y1 : Option Nat} {v : Int32} (hi : i + 6 ≤ L) (hL : L ≤ 3072) (h1 : cl 84 [.ref 0, .int (xs (i + 1)), .int (xs (i + 2))] (HH I x y) = some (some (.int v), HH I1 x1 y1)) (h2 : cl 183 [.ref 113, .int (xs (i + 1)), .int (xs (i + 2))] (HH I1 x1 y1) = some (some (.int v), HH I2 x1 y1)) : aGo cl (some (L, xs)) cd_law 1 902 (lwLs i) [] (HH I x y) = aGo cl (some (L, xs)) cd_law 1 1485 (lwLs i) [] (HH I2 x1 y1) := by
  simp [w_20, aILoad, aRLoad, aLLoad, aIStore, aRStore, aPush, aBin, aBinL, aShL, aUn, aIf, aIc, aGet, aPut, aBald, aAald, aIast, aBast, aAast, aAlen, aCopy, aCallV, aCallC, aCallI, aRet, aCat, aMax, aMin, aDiv, aRem, aI2l, aL2i, aNul, aSwS, aSw, aInc, aDup, aDup2, aPop1, aIret, aAret, aVret, aLen, aFk, aFT, Value.category, c_sh, m_sh, lw_l hi hL, h1, h2]
theorem w_21 {cl : Nat → List Value → aH → aRs} {L : Nat} {xs : Nat → Int32} : (∀ ls st H, aGo cl (some (L, xs)) cd_law 1 935 ls st H = aRLoad (fun st => aGo cl (some (L, xs)) cd_law 1 936 ls st H) ls 1 st) ∧
  (∀ ls st H, aGo cl (some (L, xs)) cd_law 1 936 ls st H = aRLoad (fun st => aGo cl (some (L, xs)) cd_law 1 937 ls st H) ls 0 st) ∧
  (∀ ls st H, aGo cl (some (L, xs)) cd_law 1 937 ls st H = aILoad (fun st => aGo cl (some (L, xs)) cd_law 1 938 ls st H) ls 3 st) ∧
  (∀ ls st H, aGo cl (some (L, xs)) cd_law 1 938 ls st H = aGo cl (some (L, xs)) cd_law 1 939 ls (.int 1 :: st) H) ∧
  (∀ ls st H, aGo cl (some (L, xs)) cd_law 1 939 ls st H = aBin (fun st => aGo cl (some (L, xs)) cd_law 1 940 ls st H) (fun x y => x + y) st) ∧
  (∀ ls st H, aGo cl (some (L, xs)) cd_law 1 940 ls st H = aIald (fun st => aGo cl (some (L, xs)) cd_law 1 941 ls st H) (some (L, xs)) H st) ∧
  (∀ ls st H, aGo cl (some (L, xs)) cd_law 1 941 ls st H = aCallV (fun st H => aGo cl (some (L, xs)) cd_law 1 944 ls st H) cl 85 1 7 H st) ∧
  (∀ ls st H, aGo cl (some (L, xs)) cd_law 1 944 ls st H = aRLoad (fun st => aGo cl (some (L, xs)) cd_law 1 945 ls st H) ls 2 st) ∧
  (∀ ls st H, aGo cl (some (L, xs)) cd_law 1 945 ls st H = aRLoad (fun st => aGo cl (some (L, xs)) cd_law 1 946 ls st H) ls 0 st) ∧
  (∀ ls st H, aGo cl (some (L, xs)) cd_law 1 946 ls st H = aILoad (fun st => aGo cl (some (L, xs)) cd_law 1 947 ls st H) ls 3 st) ∧
  (∀ ls st H, aGo cl (some (L, xs)) cd_law 1 947 ls st H = aGo cl (some (L, xs)) cd_law 1 948 ls (.int 1 :: st) H) ∧
  (∀ ls st H, aGo cl (some (L, xs)) cd_law 1 948 ls st H = aBin (fun st => aGo cl (some (L, xs)) cd_law 1 949 ls st H) (fun x y => x + y) st) ∧
  (∀ ls st H, aGo cl (some (L, xs)) cd_law 1 949 ls st H = aIald (fun st => aGo cl (some (L, xs)) cd_law 1 950 ls st H) (some (L, xs)) H st) ∧
  (∀ ls st H, aGo cl (some (L, xs)) cd_law 1 950 ls st H = aCallV (fun st H => aGo cl (some (L, xs)) cd_law 1 953 ls st H) cl 185 1 8 H st) ∧
  (∀ ls st H, aGo cl (some (L, xs)) cd_law 1 953 ls st H = aIc (fun p st => aGo cl (some (L, xs)) cd_law 1 p ls st H) .eq 1485 956 st) :=
  ⟨fun _ _ _ => (aGo_s rfl).trans rfl, fun _ _ _ => (aGo_s rfl).trans rfl, fun _ _ _ => (aGo_s rfl).trans rfl, fun _ _ _ => (aGo_s rfl).trans rfl, fun _ _ _ => (aGo_s rfl).trans rfl, fun _ _ _ => (aGo_s rfl).trans rfl, fun _ _ _ => (aGo_s rfl).trans rfl, fun _ _ _ => (aGo_s rfl).trans rfl, fun _ _ _ => (aGo_s rfl).trans rfl, fun _ _ _ => (aGo_s rfl).trans rfl, fun _ _ _ => (aGo_s rfl).trans rfl, fun _ _ _ => (aGo_s rfl).trans rfl, fun _ _ _ => (aGo_s rfl).trans rfl, fun _ _ _ => (aGo_s rfl).trans rfl, fun _ _ _ => (aGo_s rfl).trans rfl⟩
theorem lw_21 {cl : Nat → List Value → aH → aRs} {L i : Nat} {xs : Nat → Int32} {I I1 I2 : Nat → Nat → Int32} {x y x1 y1 : Option Nat} {v : Int32} (hi : i + 6 ≤ L) (hL : L ≤ 3072) (h1 : cl 85 [.ref 0, .int (xs (i + 1))] (HH I x y) = some (some (.int v), HH I1 x1 y1)) (h2 : cl 185 [.ref 113, .int (xs (i + 1))] (HH I1 x1 y1) = some (some (.int v), HH I2 x1 y1)) : aGo cl (some (L, xs)) cd_law 1 935 (lwLs i) [] (HH I x y) = aGo cl (some (L, xs)) cd_law 1 1485 (lwLs i) [] (HH I2 x1 y1) := by
  simp [w_21, aILoad, aRLoad, aLLoad, aIStore, aRStore, aPush, aBin, aBinL, aShL, aUn, aIf, aIc, aGet, aPut, aBald, aAald, aIast, aBast, aAast, aAlen, aCopy, aCallV, aCallC, aCallI, aRet, aCat, aMax, aMin, aDiv, aRem, aI2l, aL2i, aNul, aSwS, aSw, aInc, aDup, aDup2, aPop1, aIret, aAret, aVret, aLen, aFk, aFT, Value.category, c_sh, m_sh, lw_l hi hL, h1, h2]
theorem w_22 {cl : Nat → List Value → aH → aRs} {L : Nat} {xs : Nat → Int32} : (∀ ls st H, aGo cl (some (L, xs)) cd_law 1 958 ls st H = aRLoad (fun st => aGo cl (some (L, xs)) cd_law 1 959 ls st H) ls 1 st) ∧
  (∀ ls st H, aGo cl (some (L, xs)) cd_law 1 959 ls st H = aRLoad (fun st => aGo cl (some (L, xs)) cd_law 1 960 ls st H) ls 0 st) ∧
  (∀ ls st H, aGo cl (some (L, xs)) cd_law 1 960 ls st H = aILoad (fun st => aGo cl (some (L, xs)) cd_law 1 961 ls st H) ls 3 st) ∧
  (∀ ls st H, aGo cl (some (L, xs)) cd_law 1 961 ls st H = aGo cl (some (L, xs)) cd_law 1 962 ls (.int 1 :: st) H) ∧
  (∀ ls st H, aGo cl (some (L, xs)) cd_law 1 962 ls st H = aBin (fun st => aGo cl (some (L, xs)) cd_law 1 963 ls st H) (fun x y => x + y) st) ∧
  (∀ ls st H, aGo cl (some (L, xs)) cd_law 1 963 ls st H = aIald (fun st => aGo cl (some (L, xs)) cd_law 1 964 ls st H) (some (L, xs)) H st) ∧
  (∀ ls st H, aGo cl (some (L, xs)) cd_law 1 964 ls st H = aCallV (fun st H => aGo cl (some (L, xs)) cd_law 1 967 ls st H) cl 86 1 7 H st) ∧
  (∀ ls st H, aGo cl (some (L, xs)) cd_law 1 967 ls st H = aRLoad (fun st => aGo cl (some (L, xs)) cd_law 1 968 ls st H) ls 2 st) ∧
  (∀ ls st H, aGo cl (some (L, xs)) cd_law 1 968 ls st H = aRLoad (fun st => aGo cl (some (L, xs)) cd_law 1 969 ls st H) ls 0 st) ∧
  (∀ ls st H, aGo cl (some (L, xs)) cd_law 1 969 ls st H = aILoad (fun st => aGo cl (some (L, xs)) cd_law 1 970 ls st H) ls 3 st) ∧
  (∀ ls st H, aGo cl (some (L, xs)) cd_law 1 970 ls st H = aGo cl (some (L, xs)) cd_law 1 971 ls (.int 1 :: st) H) ∧
  (∀ ls st H, aGo cl (some (L, xs)) cd_law 1 971 ls st H = aBin (fun st => aGo cl (some (L, xs)) cd_law 1 972 ls st H) (fun x y => x + y) st) ∧
  (∀ ls st H, aGo cl (some (L, xs)) cd_law 1 972 ls st H = aIald (fun st => aGo cl (some (L, xs)) cd_law 1 973 ls st H) (some (L, xs)) H st) ∧
  (∀ ls st H, aGo cl (some (L, xs)) cd_law 1 973 ls st H = aCallV (fun st H => aGo cl (some (L, xs)) cd_law 1 976 ls st H) cl 188 1 8 H st) ∧
  (∀ ls st H, aGo cl (some (L, xs)) cd_law 1 976 ls st H = aIc (fun p st => aGo cl (some (L, xs)) cd_law 1 p ls st H) .eq 1485 979 st) :=
  ⟨fun _ _ _ => (aGo_s rfl).trans rfl, fun _ _ _ => (aGo_s rfl).trans rfl, fun _ _ _ => (aGo_s rfl).trans rfl, fun _ _ _ => (aGo_s rfl).trans rfl, fun _ _ _ => (aGo_s rfl).trans rfl, fun _ _ _ => (aGo_s rfl).trans rfl, fun _ _ _ => (aGo_s rfl).trans rfl, fun _ _ _ => (aGo_s rfl).trans rfl, fun _ _ _ => (aGo_s rfl).trans rfl, fun _ _ _ => (aGo_s rfl).trans rfl, fun _ _ _ => (aGo_s rfl).trans rfl, fun _ _ _ => (aGo_s rfl).trans rfl, fun _ _ _ => (aGo_s rfl).trans rfl, fun _ _ _ => (aGo_s rfl).trans rfl, fun _ _ _ => (aGo_s rfl).trans rfl⟩
theorem lw_22 {cl : Nat → List Value → aH → aRs} {L i : Nat} {xs : Nat → Int32} {I I1 I2 : Nat → Nat → Int32} {x y x1 y1 : Option Nat} {v : Int32} (hi : i + 6 ≤ L) (hL : L ≤ 3072) (h1 : cl 86 [.ref 0, .int (xs (i + 1))] (HH I x y) = some (some (.int v), HH I1 x1 y1)) (h2 : cl 188 [.ref 113, .int (xs (i + 1))] (HH I1 x1 y1) = some (some (.int v), HH I2 x1 y1)) : aGo cl (some (L, xs)) cd_law 1 958 (lwLs i) [] (HH I x y) = aGo cl (some (L, xs)) cd_law 1 1485 (lwLs i) [] (HH I2 x1 y1) := by
  simp [w_22, aILoad, aRLoad, aLLoad, aIStore, aRStore, aPush, aBin, aBinL, aShL, aUn, aIf, aIc, aGet, aPut, aBald, aAald, aIast, aBast, aAast, aAlen, aCopy, aCallV, aCallC, aCallI, aRet, aCat, aMax, aMin, aDiv, aRem, aI2l, aL2i, aNul, aSwS, aSw, aInc, aDup, aDup2, aPop1, aIret, aAret, aVret, aLen, aFk, aFT, Value.category, c_sh, m_sh, lw_l hi hL, h1, h2]
theorem w_23 {cl : Nat → List Value → aH → aRs} {L : Nat} {xs : Nat → Int32} : (∀ ls st H, aGo cl (some (L, xs)) cd_law 1 981 ls st H = aRLoad (fun st => aGo cl (some (L, xs)) cd_law 1 982 ls st H) ls 1 st) ∧
  (∀ ls st H, aGo cl (some (L, xs)) cd_law 1 982 ls st H = aRLoad (fun st => aGo cl (some (L, xs)) cd_law 1 983 ls st H) ls 0 st) ∧
  (∀ ls st H, aGo cl (some (L, xs)) cd_law 1 983 ls st H = aILoad (fun st => aGo cl (some (L, xs)) cd_law 1 984 ls st H) ls 3 st) ∧
  (∀ ls st H, aGo cl (some (L, xs)) cd_law 1 984 ls st H = aGo cl (some (L, xs)) cd_law 1 985 ls (.int 1 :: st) H) ∧
  (∀ ls st H, aGo cl (some (L, xs)) cd_law 1 985 ls st H = aBin (fun st => aGo cl (some (L, xs)) cd_law 1 986 ls st H) (fun x y => x + y) st) ∧
  (∀ ls st H, aGo cl (some (L, xs)) cd_law 1 986 ls st H = aIald (fun st => aGo cl (some (L, xs)) cd_law 1 987 ls st H) (some (L, xs)) H st) ∧
  (∀ ls st H, aGo cl (some (L, xs)) cd_law 1 987 ls st H = aRLoad (fun st => aGo cl (some (L, xs)) cd_law 1 988 ls st H) ls 0 st) ∧
  (∀ ls st H, aGo cl (some (L, xs)) cd_law 1 988 ls st H = aILoad (fun st => aGo cl (some (L, xs)) cd_law 1 989 ls st H) ls 3 st) ∧
  (∀ ls st H, aGo cl (some (L, xs)) cd_law 1 989 ls st H = aGo cl (some (L, xs)) cd_law 1 990 ls (.int 2 :: st) H) ∧
  (∀ ls st H, aGo cl (some (L, xs)) cd_law 1 990 ls st H = aBin (fun st => aGo cl (some (L, xs)) cd_law 1 991 ls st H) (fun x y => x + y) st) ∧
  (∀ ls st H, aGo cl (some (L, xs)) cd_law 1 991 ls st H = aIald (fun st => aGo cl (some (L, xs)) cd_law 1 992 ls st H) (some (L, xs)) H st) ∧
  (∀ ls st H, aGo cl (some (L, xs)) cd_law 1 992 ls st H = aCallV (fun st H => aGo cl (some (L, xs)) cd_law 1 995 ls st H) cl 87 2 7 H st) ∧
  (∀ ls st H, aGo cl (some (L, xs)) cd_law 1 995 ls st H = aRLoad (fun st => aGo cl (some (L, xs)) cd_law 1 996 ls st H) ls 2 st) ∧
  (∀ ls st H, aGo cl (some (L, xs)) cd_law 1 996 ls st H = aRLoad (fun st => aGo cl (some (L, xs)) cd_law 1 997 ls st H) ls 0 st) ∧
  (∀ ls st H, aGo cl (some (L, xs)) cd_law 1 997 ls st H = aILoad (fun st => aGo cl (some (L, xs)) cd_law 1 998 ls st H) ls 3 st) ∧
  (∀ ls st H, aGo cl (some (L, xs)) cd_law 1 998 ls st H = aGo cl (some (L, xs)) cd_law 1 999 ls (.int 1 :: st) H) ∧
  (∀ ls st H, aGo cl (some (L, xs)) cd_law 1 999 ls st H = aBin (fun st => aGo cl (some (L, xs)) cd_law 1 1000 ls st H) (fun x y => x + y) st) ∧
  (∀ ls st H, aGo cl (some (L, xs)) cd_law 1 1000 ls st H = aIald (fun st => aGo cl (some (L, xs)) cd_law 1 1001 ls st H) (some (L, xs)) H st) ∧
  (∀ ls st H, aGo cl (some (L, xs)) cd_law 1 1001 ls st H = aRLoad (fun st => aGo cl (some (L, xs)) cd_law 1 1002 ls st H) ls 0 st) ∧
  (∀ ls st H, aGo cl (some (L, xs)) cd_law 1 1002 ls st H = aILoad (fun st => aGo cl (some (L, xs)) cd_law 1 1003 ls st H) ls 3 st) ∧
  (∀ ls st H, aGo cl (some (L, xs)) cd_law 1 1003 ls st H = aGo cl (some (L, xs)) cd_law 1 1004 ls (.int 2 :: st) H) ∧
  (∀ ls st H, aGo cl (some (L, xs)) cd_law 1 1004 ls st H = aBin (fun st => aGo cl (some (L, xs)) cd_law 1 1005 ls st H) (fun x y => x + y) st) ∧
  (∀ ls st H, aGo cl (some (L, xs)) cd_law 1 1005 ls st H = aIald (fun st => aGo cl (some (L, xs)) cd_law 1 1006 ls st H) (some (L, xs)) H st) ∧
  (∀ ls st H, aGo cl (some (L, xs)) cd_law 1 1006 ls st H = aCallV (fun st H => aGo cl (some (L, xs)) cd_law 1 1009 ls st H) cl 190 2 8 H st) ∧
  (∀ ls st H, aGo cl (some (L, xs)) cd_law 1 1009 ls st H = aIc (fun p st => aGo cl (some (L, xs)) cd_law 1 p ls st H) .eq 1485 1012 st) :=
  ⟨fun _ _ _ => (aGo_s rfl).trans rfl, fun _ _ _ => (aGo_s rfl).trans rfl, fun _ _ _ => (aGo_s rfl).trans rfl, fun _ _ _ => (aGo_s rfl).trans rfl, fun _ _ _ => (aGo_s rfl).trans rfl, fun _ _ _ => (aGo_s rfl).trans rfl, fun _ _ _ => (aGo_s rfl).trans rfl, fun _ _ _ => (aGo_s rfl).trans rfl, fun _ _ _ => (aGo_s rfl).trans rfl, fun _ _ _ => (aGo_s rfl).trans rfl, fun _ _ _ => (aGo_s rfl).trans rfl, fun _ _ _ => (aGo_s rfl).trans rfl, fun _ _ _ => (aGo_s rfl).trans rfl, fun _ _ _ => (aGo_s rfl).trans rfl, fun _ _ _ => (aGo_s rfl).trans rfl, fun _ _ _ => (aGo_s rfl).trans rfl, fun _ _ _ => (aGo_s rfl).trans rfl, fun _ _ _ => (aGo_s rfl).trans rfl, fun _ _ _ => (aGo_s rfl).trans rfl, fun _ _ _ => (aGo_s rfl).trans rfl, fun _ _ _ => (aGo_s rfl).trans rfl, fun _ _ _ => (aGo_s rfl).trans rfl, fun _ _ _ => (aGo_s rfl).trans rfl, fun _ _ _ => (aGo_s rfl).trans rfl, fun _ _ _ => (aGo_s rfl).trans rfl⟩
theorem lw_23 {cl : Nat → List Value → aH → aRs} {L i : Nat} {xs : Nat → Int32} {I I1 I2 : Nat → Nat → Int32} {x y x1 y1 : Option Nat} {v : Int32} (hi : i + 6 ≤ L) (hL : L ≤ 3072) (h1 : cl 87 [.ref 0, .int (xs (i + 1)), .int (xs (i + 2))] (HH I x y) = some (some (.int v), HH I1 x1 y1)) (h2 : cl 190 [.ref 113, .int (xs (i + 1)), .int (xs (i + 2))] (HH I1 x1 y1) = some (some (.int v), HH I2 x1 y1)) : aGo cl (some (L, xs)) cd_law 1 981 (lwLs i) [] (HH I x y) = aGo cl (some (L, xs)) cd_law 1 1485 (lwLs i) [] (HH I2 x1 y1) := by
  simp [w_23, aILoad, aRLoad, aLLoad, aIStore, aRStore, aPush, aBin, aBinL, aShL, aUn, aIf, aIc, aGet, aPut, aBald, aAald, aIast, aBast, aAast, aAlen, aCopy, aCallV, aCallC, aCallI, aRet, aCat, aMax, aMin, aDiv, aRem, aI2l, aL2i, aNul, aSwS, aSw, aInc, aDup, aDup2, aPop1, aIret, aAret, aVret, aLen, aFk, aFT, Value.category, c_sh, m_sh, lw_l hi hL, h1, h2]
theorem w_24 {cl : Nat → List Value → aH → aRs} {L : Nat} {xs : Nat → Int32} : (∀ ls st H, aGo cl (some (L, xs)) cd_law 1 1014 ls st H = aRLoad (fun st => aGo cl (some (L, xs)) cd_law 1 1015 ls st H) ls 1 st) ∧
  (∀ ls st H, aGo cl (some (L, xs)) cd_law 1 1015 ls st H = aRLoad (fun st => aGo cl (some (L, xs)) cd_law 1 1016 ls st H) ls 0 st) ∧
  (∀ ls st H, aGo cl (some (L, xs)) cd_law 1 1016 ls st H = aILoad (fun st => aGo cl (some (L, xs)) cd_law 1 1017 ls st H) ls 3 st) ∧
  (∀ ls st H, aGo cl (some (L, xs)) cd_law 1 1017 ls st H = aGo cl (some (L, xs)) cd_law 1 1018 ls (.int 1 :: st) H) ∧
  (∀ ls st H, aGo cl (some (L, xs)) cd_law 1 1018 ls st H = aBin (fun st => aGo cl (some (L, xs)) cd_law 1 1019 ls st H) (fun x y => x + y) st) ∧
  (∀ ls st H, aGo cl (some (L, xs)) cd_law 1 1019 ls st H = aIald (fun st => aGo cl (some (L, xs)) cd_law 1 1020 ls st H) (some (L, xs)) H st) ∧
  (∀ ls st H, aGo cl (some (L, xs)) cd_law 1 1020 ls st H = aRLoad (fun st => aGo cl (some (L, xs)) cd_law 1 1021 ls st H) ls 0 st) ∧
  (∀ ls st H, aGo cl (some (L, xs)) cd_law 1 1021 ls st H = aILoad (fun st => aGo cl (some (L, xs)) cd_law 1 1022 ls st H) ls 3 st) ∧
  (∀ ls st H, aGo cl (some (L, xs)) cd_law 1 1022 ls st H = aGo cl (some (L, xs)) cd_law 1 1023 ls (.int 2 :: st) H) ∧
  (∀ ls st H, aGo cl (some (L, xs)) cd_law 1 1023 ls st H = aBin (fun st => aGo cl (some (L, xs)) cd_law 1 1024 ls st H) (fun x y => x + y) st) ∧
  (∀ ls st H, aGo cl (some (L, xs)) cd_law 1 1024 ls st H = aIald (fun st => aGo cl (some (L, xs)) cd_law 1 1025 ls st H) (some (L, xs)) H st) ∧
  (∀ ls st H, aGo cl (some (L, xs)) cd_law 1 1025 ls st H = aCallV (fun st H => aGo cl (some (L, xs)) cd_law 1 1028 ls st H) cl 88 2 7 H st) ∧
  (∀ ls st H, aGo cl (some (L, xs)) cd_law 1 1028 ls st H = aRLoad (fun st => aGo cl (some (L, xs)) cd_law 1 1029 ls st H) ls 2 st) ∧
  (∀ ls st H, aGo cl (some (L, xs)) cd_law 1 1029 ls st H = aRLoad (fun st => aGo cl (some (L, xs)) cd_law 1 1030 ls st H) ls 0 st) ∧
  (∀ ls st H, aGo cl (some (L, xs)) cd_law 1 1030 ls st H = aILoad (fun st => aGo cl (some (L, xs)) cd_law 1 1031 ls st H) ls 3 st) ∧
  (∀ ls st H, aGo cl (some (L, xs)) cd_law 1 1031 ls st H = aGo cl (some (L, xs)) cd_law 1 1032 ls (.int 1 :: st) H) ∧
  (∀ ls st H, aGo cl (some (L, xs)) cd_law 1 1032 ls st H = aBin (fun st => aGo cl (some (L, xs)) cd_law 1 1033 ls st H) (fun x y => x + y) st) ∧
  (∀ ls st H, aGo cl (some (L, xs)) cd_law 1 1033 ls st H = aIald (fun st => aGo cl (some (L, xs)) cd_law 1 1034 ls st H) (some (L, xs)) H st) ∧
  (∀ ls st H, aGo cl (some (L, xs)) cd_law 1 1034 ls st H = aRLoad (fun st => aGo cl (some (L, xs)) cd_law 1 1035 ls st H) ls 0 st) ∧
  (∀ ls st H, aGo cl (some (L, xs)) cd_law 1 1035 ls st H = aILoad (fun st => aGo cl (some (L, xs)) cd_law 1 1036 ls st H) ls 3 st) ∧
  (∀ ls st H, aGo cl (some (L, xs)) cd_law 1 1036 ls st H = aGo cl (some (L, xs)) cd_law 1 1037 ls (.int 2 :: st) H) ∧
  (∀ ls st H, aGo cl (some (L, xs)) cd_law 1 1037 ls st H = aBin (fun st => aGo cl (some (L, xs)) cd_law 1 1038 ls st H) (fun x y => x + y) st) ∧
  (∀ ls st H, aGo cl (some (L, xs)) cd_law 1 1038 ls st H = aIald (fun st => aGo cl (some (L, xs)) cd_law 1 1039 ls st H) (some (L, xs)) H st) ∧
  (∀ ls st H, aGo cl (some (L, xs)) cd_law 1 1039 ls st H = aCallV (fun st H => aGo cl (some (L, xs)) cd_law 1 1042 ls st H) cl 192 2 8 H st) ∧
  (∀ ls st H, aGo cl (some (L, xs)) cd_law 1 1042 ls st H = aIc (fun p st => aGo cl (some (L, xs)) cd_law 1 p ls st H) .eq 1485 1045 st) :=
  ⟨fun _ _ _ => (aGo_s rfl).trans rfl, fun _ _ _ => (aGo_s rfl).trans rfl, fun _ _ _ => (aGo_s rfl).trans rfl, fun _ _ _ => (aGo_s rfl).trans rfl, fun _ _ _ => (aGo_s rfl).trans rfl, fun _ _ _ => (aGo_s rfl).trans rfl, fun _ _ _ => (aGo_s rfl).trans rfl, fun _ _ _ => (aGo_s rfl).trans rfl, fun _ _ _ => (aGo_s rfl).trans rfl, fun _ _ _ => (aGo_s rfl).trans rfl, fun _ _ _ => (aGo_s rfl).trans rfl, fun _ _ _ => (aGo_s rfl).trans rfl, fun _ _ _ => (aGo_s rfl).trans rfl, fun _ _ _ => (aGo_s rfl).trans rfl, fun _ _ _ => (aGo_s rfl).trans rfl, fun _ _ _ => (aGo_s rfl).trans rfl, fun _ _ _ => (aGo_s rfl).trans rfl, fun _ _ _ => (aGo_s rfl).trans rfl, fun _ _ _ => (aGo_s rfl).trans rfl, fun _ _ _ => (aGo_s rfl).trans rfl, fun _ _ _ => (aGo_s rfl).trans rfl, fun _ _ _ => (aGo_s rfl).trans rfl, fun _ _ _ => (aGo_s rfl).trans rfl, fun _ _ _ => (aGo_s rfl).trans rfl, fun _ _ _ => (aGo_s rfl).trans rfl⟩
theorem lw_24 {cl : Nat → List Value → aH → aRs} {L i : Nat} {xs : Nat → Int32} {I I1 I2 : Nat → Nat → Int32} {x y x1 y1 : Option Nat} {v : Int32} (hi : i + 6 ≤ L) (hL : L ≤ 3072) (h1 : cl 88 [.ref 0, .int (xs (i + 1)), .int (xs (i + 2))] (HH I x y) = some (some (.int v), HH I1 x1 y1)) (h2 : cl 192 [.ref 113, .int (xs (i + 1)), .int (xs (i + 2))] (HH I1 x1 y1) = some (some (.int v), HH I2 x1 y1)) : aGo cl (some (L, xs)) cd_law 1 1014 (lwLs i) [] (HH I x y) = aGo cl (some (L, xs)) cd_law 1 1485 (lwLs i) [] (HH I2 x1 y1) := by
  simp [w_24, aILoad, aRLoad, aLLoad, aIStore, aRStore, aPush, aBin, aBinL, aShL, aUn, aIf, aIc, aGet, aPut, aBald, aAald, aIast, aBast, aAast, aAlen, aCopy, aCallV, aCallC, aCallI, aRet, aCat, aMax, aMin, aDiv, aRem, aI2l, aL2i, aNul, aSwS, aSw, aInc, aDup, aDup2, aPop1, aIret, aAret, aVret, aLen, aFk, aFT, Value.category, c_sh, m_sh, lw_l hi hL, h1, h2]
theorem w_25 {cl : Nat → List Value → aH → aRs} {L : Nat} {xs : Nat → Int32} : (∀ ls st H, aGo cl (some (L, xs)) cd_law 1 1047 ls st H = aRLoad (fun st => aGo cl (some (L, xs)) cd_law 1 1048 ls st H) ls 1 st) ∧
  (∀ ls st H, aGo cl (some (L, xs)) cd_law 1 1048 ls st H = aRLoad (fun st => aGo cl (some (L, xs)) cd_law 1 1049 ls st H) ls 0 st) ∧
  (∀ ls st H, aGo cl (some (L, xs)) cd_law 1 1049 ls st H = aILoad (fun st => aGo cl (some (L, xs)) cd_law 1 1050 ls st H) ls 3 st) ∧
  (∀ ls st H, aGo cl (some (L, xs)) cd_law 1 1050 ls st H = aGo cl (some (L, xs)) cd_law 1 1051 ls (.int 1 :: st) H) ∧
  (∀ ls st H, aGo cl (some (L, xs)) cd_law 1 1051 ls st H = aBin (fun st => aGo cl (some (L, xs)) cd_law 1 1052 ls st H) (fun x y => x + y) st) ∧
  (∀ ls st H, aGo cl (some (L, xs)) cd_law 1 1052 ls st H = aIald (fun st => aGo cl (some (L, xs)) cd_law 1 1053 ls st H) (some (L, xs)) H st) ∧
  (∀ ls st H, aGo cl (some (L, xs)) cd_law 1 1053 ls st H = aCallV (fun st H => aGo cl (some (L, xs)) cd_law 1 1056 ls st H) cl 89 1 7 H st) ∧
  (∀ ls st H, aGo cl (some (L, xs)) cd_law 1 1056 ls st H = aRLoad (fun st => aGo cl (some (L, xs)) cd_law 1 1057 ls st H) ls 2 st) ∧
  (∀ ls st H, aGo cl (some (L, xs)) cd_law 1 1057 ls st H = aRLoad (fun st => aGo cl (some (L, xs)) cd_law 1 1058 ls st H) ls 0 st) ∧
  (∀ ls st H, aGo cl (some (L, xs)) cd_law 1 1058 ls st H = aILoad (fun st => aGo cl (some (L, xs)) cd_law 1 1059 ls st H) ls 3 st) ∧
  (∀ ls st H, aGo cl (some (L, xs)) cd_law 1 1059 ls st H = aGo cl (some (L, xs)) cd_law 1 1060 ls (.int 1 :: st) H) ∧
  (∀ ls st H, aGo cl (some (L, xs)) cd_law 1 1060 ls st H = aBin (fun st => aGo cl (some (L, xs)) cd_law 1 1061 ls st H) (fun x y => x + y) st) ∧
  (∀ ls st H, aGo cl (some (L, xs)) cd_law 1 1061 ls st H = aIald (fun st => aGo cl (some (L, xs)) cd_law 1 1062 ls st H) (some (L, xs)) H st) ∧
  (∀ ls st H, aGo cl (some (L, xs)) cd_law 1 1062 ls st H = aCallV (fun st H => aGo cl (some (L, xs)) cd_law 1 1065 ls st H) cl 193 1 8 H st) ∧
  (∀ ls st H, aGo cl (some (L, xs)) cd_law 1 1065 ls st H = aIc (fun p st => aGo cl (some (L, xs)) cd_law 1 p ls st H) .eq 1485 1068 st) :=
  ⟨fun _ _ _ => (aGo_s rfl).trans rfl, fun _ _ _ => (aGo_s rfl).trans rfl, fun _ _ _ => (aGo_s rfl).trans rfl, fun _ _ _ => (aGo_s rfl).trans rfl, fun _ _ _ => (aGo_s rfl).trans rfl, fun _ _ _ => (aGo_s rfl).trans rfl, fun _ _ _ => (aGo_s rfl).trans rfl, fun _ _ _ => (aGo_s rfl).trans rfl, fun _ _ _ => (aGo_s rfl).trans rfl, fun _ _ _ => (aGo_s rfl).trans rfl, fun _ _ _ => (aGo_s rfl).trans rfl, fun _ _ _ => (aGo_s rfl).trans rfl, fun _ _ _ => (aGo_s rfl).trans rfl, fun _ _ _ => (aGo_s rfl).trans rfl, fun _ _ _ => (aGo_s rfl).trans rfl⟩
theorem lw_25 {cl : Nat → List Value → aH → aRs} {L i : Nat} {xs : Nat → Int32} {I I1 I2 : Nat → Nat → Int32} {x y x1 y1 : Option Nat} {v : Int32} (hi : i + 6 ≤ L) (hL : L ≤ 3072) (h1 : cl 89 [.ref 0, .int (xs (i + 1))] (HH I x y) = some (some (.int v), HH I1 x1 y1)) (h2 : cl 193 [.ref 113, .int (xs (i + 1))] (HH I1 x1 y1) = some (some (.int v), HH I2 x1 y1)) : aGo cl (some (L, xs)) cd_law 1 1047 (lwLs i) [] (HH I x y) = aGo cl (some (L, xs)) cd_law 1 1485 (lwLs i) [] (HH I2 x1 y1) := by
  simp [w_25, aILoad, aRLoad, aLLoad, aIStore, aRStore, aPush, aBin, aBinL, aShL, aUn, aIf, aIc, aGet, aPut, aBald, aAald, aIast, aBast, aAast, aAlen, aCopy, aCallV, aCallC, aCallI, aRet, aCat, aMax, aMin, aDiv, aRem, aI2l, aL2i, aNul, aSwS, aSw, aInc, aDup, aDup2, aPop1, aIret, aAret, aVret, aLen, aFk, aFT, Value.category, c_sh, m_sh, lw_l hi hL, h1, h2]
theorem w_26 {cl : Nat → List Value → aH → aRs} {L : Nat} {xs : Nat → Int32} : (∀ ls st H, aGo cl (some (L, xs)) cd_law 1 1070 ls st H = aRLoad (fun st => aGo cl (some (L, xs)) cd_law 1 1071 ls st H) ls 1 st) ∧
  (∀ ls st H, aGo cl (some (L, xs)) cd_law 1 1071 ls st H = aRLoad (fun st => aGo cl (some (L, xs)) cd_law 1 1072 ls st H) ls 0 st) ∧
  (∀ ls st H, aGo cl (some (L, xs)) cd_law 1 1072 ls st H = aILoad (fun st => aGo cl (some (L, xs)) cd_law 1 1073 ls st H) ls 3 st) ∧
  (∀ ls st H, aGo cl (some (L, xs)) cd_law 1 1073 ls st H = aGo cl (some (L, xs)) cd_law 1 1074 ls (.int 1 :: st) H) ∧
  (∀ ls st H, aGo cl (some (L, xs)) cd_law 1 1074 ls st H = aBin (fun st => aGo cl (some (L, xs)) cd_law 1 1075 ls st H) (fun x y => x + y) st) ∧
  (∀ ls st H, aGo cl (some (L, xs)) cd_law 1 1075 ls st H = aIald (fun st => aGo cl (some (L, xs)) cd_law 1 1076 ls st H) (some (L, xs)) H st) ∧
  (∀ ls st H, aGo cl (some (L, xs)) cd_law 1 1076 ls st H = aRLoad (fun st => aGo cl (some (L, xs)) cd_law 1 1077 ls st H) ls 0 st) ∧
  (∀ ls st H, aGo cl (some (L, xs)) cd_law 1 1077 ls st H = aILoad (fun st => aGo cl (some (L, xs)) cd_law 1 1078 ls st H) ls 3 st) ∧
  (∀ ls st H, aGo cl (some (L, xs)) cd_law 1 1078 ls st H = aGo cl (some (L, xs)) cd_law 1 1079 ls (.int 2 :: st) H) ∧
  (∀ ls st H, aGo cl (some (L, xs)) cd_law 1 1079 ls st H = aBin (fun st => aGo cl (some (L, xs)) cd_law 1 1080 ls st H) (fun x y => x + y) st) ∧
  (∀ ls st H, aGo cl (some (L, xs)) cd_law 1 1080 ls st H = aIald (fun st => aGo cl (some (L, xs)) cd_law 1 1081 ls st H) (some (L, xs)) H st) ∧
  (∀ ls st H, aGo cl (some (L, xs)) cd_law 1 1081 ls st H = aCallV (fun st H => aGo cl (some (L, xs)) cd_law 1 1084 ls st H) cl 90 2 7 H st) ∧
  (∀ ls st H, aGo cl (some (L, xs)) cd_law 1 1084 ls st H = aRLoad (fun st => aGo cl (some (L, xs)) cd_law 1 1085 ls st H) ls 2 st) ∧
  (∀ ls st H, aGo cl (some (L, xs)) cd_law 1 1085 ls st H = aRLoad (fun st => aGo cl (some (L, xs)) cd_law 1 1086 ls st H) ls 0 st) ∧
  (∀ ls st H, aGo cl (some (L, xs)) cd_law 1 1086 ls st H = aILoad (fun st => aGo cl (some (L, xs)) cd_law 1 1087 ls st H) ls 3 st) ∧
  (∀ ls st H, aGo cl (some (L, xs)) cd_law 1 1087 ls st H = aGo cl (some (L, xs)) cd_law 1 1088 ls (.int 1 :: st) H) ∧
  (∀ ls st H, aGo cl (some (L, xs)) cd_law 1 1088 ls st H = aBin (fun st => aGo cl (some (L, xs)) cd_law 1 1089 ls st H) (fun x y => x + y) st) ∧
  (∀ ls st H, aGo cl (some (L, xs)) cd_law 1 1089 ls st H = aIald (fun st => aGo cl (some (L, xs)) cd_law 1 1090 ls st H) (some (L, xs)) H st) ∧
  (∀ ls st H, aGo cl (some (L, xs)) cd_law 1 1090 ls st H = aRLoad (fun st => aGo cl (some (L, xs)) cd_law 1 1091 ls st H) ls 0 st) ∧
  (∀ ls st H, aGo cl (some (L, xs)) cd_law 1 1091 ls st H = aILoad (fun st => aGo cl (some (L, xs)) cd_law 1 1092 ls st H) ls 3 st) ∧
  (∀ ls st H, aGo cl (some (L, xs)) cd_law 1 1092 ls st H = aGo cl (some (L, xs)) cd_law 1 1093 ls (.int 2 :: st) H) ∧
  (∀ ls st H, aGo cl (some (L, xs)) cd_law 1 1093 ls st H = aBin (fun st => aGo cl (some (L, xs)) cd_law 1 1094 ls st H) (fun x y => x + y) st) ∧
  (∀ ls st H, aGo cl (some (L, xs)) cd_law 1 1094 ls st H = aIald (fun st => aGo cl (some (L, xs)) cd_law 1 1095 ls st H) (some (L, xs)) H st) ∧
  (∀ ls st H, aGo cl (some (L, xs)) cd_law 1 1095 ls st H = aCallV (fun st H => aGo cl (some (L, xs)) cd_law 1 1098 ls st H) cl 194 2 8 H st) ∧
  (∀ ls st H, aGo cl (some (L, xs)) cd_law 1 1098 ls st H = aIc (fun p st => aGo cl (some (L, xs)) cd_law 1 p ls st H) .eq 1485 1101 st) :=
  ⟨fun _ _ _ => (aGo_s rfl).trans rfl, fun _ _ _ => (aGo_s rfl).trans rfl, fun _ _ _ => (aGo_s rfl).trans rfl, fun _ _ _ => (aGo_s rfl).trans rfl, fun _ _ _ => (aGo_s rfl).trans rfl, fun _ _ _ => (aGo_s rfl).trans rfl, fun _ _ _ => (aGo_s rfl).trans rfl, fun _ _ _ => (aGo_s rfl).trans rfl, fun _ _ _ => (aGo_s rfl).trans rfl, fun _ _ _ => (aGo_s rfl).trans rfl, fun _ _ _ => (aGo_s rfl).trans rfl, fun _ _ _ => (aGo_s rfl).trans rfl, fun _ _ _ => (aGo_s rfl).trans rfl, fun _ _ _ => (aGo_s rfl).trans rfl, fun _ _ _ => (aGo_s rfl).trans rfl, fun _ _ _ => (aGo_s rfl).trans rfl, fun _ _ _ => (aGo_s rfl).trans rfl, fun _ _ _ => (aGo_s rfl).trans rfl, fun _ _ _ => (aGo_s rfl).trans rfl, fun _ _ _ => (aGo_s rfl).trans rfl, fun _ _ _ => (aGo_s rfl).trans rfl, fun _ _ _ => (aGo_s rfl).trans rfl, fun _ _ _ => (aGo_s rfl).trans rfl, fun _ _ _ => (aGo_s rfl).trans rfl, fun _ _ _ => (aGo_s rfl).trans rfl⟩
theorem lw_26 {cl : Nat → List Value → aH → aRs} {L i : Nat} {xs : Nat → Int32} {I I1 I2 : Nat → Nat → Int32} {x y x1 y1 : Option Nat} {v : Int32} (hi : i + 6 ≤ L) (hL : L ≤ 3072) (h1 : cl 90 [.ref 0, .int (xs (i + 1)), .int (xs (i + 2))] (HH I x y) = some (some (.int v), HH I1 x1 y1)) (h2 : cl 194 [.ref 113, .int (xs (i + 1)), .int (xs (i + 2))] (HH I1 x1 y1) = some (some (.int v), HH I2 x1 y1)) : aGo cl (some (L, xs)) cd_law 1 1070 (lwLs i) [] (HH I x y) = aGo cl (some (L, xs)) cd_law 1 1485 (lwLs i) [] (HH I2 x1 y1) := by
  simp [w_26, aILoad, aRLoad, aLLoad, aIStore, aRStore, aPush, aBin, aBinL, aShL, aUn, aIf, aIc, aGet, aPut, aBald, aAald, aIast, aBast, aAast, aAlen, aCopy, aCallV, aCallC, aCallI, aRet, aCat, aMax, aMin, aDiv, aRem, aI2l, aL2i, aNul, aSwS, aSw, aInc, aDup, aDup2, aPop1, aIret, aAret, aVret, aLen, aFk, aFT, Value.category, c_sh, m_sh, lw_l hi hL, h1, h2]
theorem w_27 {cl : Nat → List Value → aH → aRs} {L : Nat} {xs : Nat → Int32} : (∀ ls st H, aGo cl (some (L, xs)) cd_law 1 1103 ls st H = aRLoad (fun st => aGo cl (some (L, xs)) cd_law 1 1104 ls st H) ls 1 st) ∧
  (∀ ls st H, aGo cl (some (L, xs)) cd_law 1 1104 ls st H = aCallV (fun st H => aGo cl (some (L, xs)) cd_law 1 1107 ls st H) cl 91 0 7 H st) ∧
  (∀ ls st H, aGo cl (some (L, xs)) cd_law 1 1107 ls st H = aRLoad (fun st => aGo cl (some (L, xs)) cd_law 1 1108 ls st H) ls 2 st) ∧
  (∀ ls st H, aGo cl (some (L, xs)) cd_law 1 1108 ls st H = aCallV (fun st H => aGo cl (some (L, xs)) cd_law 1 1111 ls st H) cl 195 0 8 H st) ∧
  (∀ ls st H, aGo cl (some (L, xs)) cd_law 1 1111 ls st H = aIc (fun p st => aGo cl (some (L, xs)) cd_law 1 p ls st H) .eq 1485 1114 st) :=
  ⟨fun _ _ _ => (aGo_s rfl).trans rfl, fun _ _ _ => (aGo_s rfl).trans rfl, fun _ _ _ => (aGo_s rfl).trans rfl, fun _ _ _ => (aGo_s rfl).trans rfl, fun _ _ _ => (aGo_s rfl).trans rfl⟩
theorem lw_27 {cl : Nat → List Value → aH → aRs} {L i : Nat} {xs : Nat → Int32} {I I1 I2 : Nat → Nat → Int32} {x y x1 y1 : Option Nat} {v : Int32} (hi : i + 6 ≤ L) (hL : L ≤ 3072) (h1 : cl 91 [.ref 0] (HH I x y) = some (some (.int v), HH I1 x1 y1)) (h2 : cl 195 [.ref 113] (HH I1 x1 y1) = some (some (.int v), HH I2 x1 y1)) : aGo cl (some (L, xs)) cd_law 1 1103 (lwLs i) [] (HH I x y) = aGo cl (some (L, xs)) cd_law 1 1485 (lwLs i) [] (HH I2 x1 y1) := by
  simp [w_27, aILoad, aRLoad, aLLoad, aIStore, aRStore, aPush, aBin, aBinL, aShL, aUn, aIf, aIc, aGet, aPut, aBald, aAald, aIast, aBast, aAast, aAlen, aCopy, aCallV, aCallC, aCallI, aRet, aCat, aMax, aMin, aDiv, aRem, aI2l, aL2i, aNul, aSwS, aSw, aInc, aDup, aDup2, aPop1, aIret, aAret, aVret, aLen, aFk, aFT, Value.category, c_sh, m_sh, lw_l hi hL, h1, h2]
