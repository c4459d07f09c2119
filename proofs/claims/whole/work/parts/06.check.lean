/-! the code, entry by entry, held against the bytes and the tables -/
def aLn : Instr → Nat
  | .aload _ | .iload _ | .istore _ | .astore _ | .bipush _ | .ldc _ | .newarray _ => 2
  | .sipush _ | .ldc_w _ | .ldc2_w _ | .getfield _ | .putfield _ | .getstatic _ | .ifCond _ _ | .if_icmp _ _ | .ifnull _ | .ifnonnull _ | .goto _ | .iinc _ _ | .anewarray _ | .new _ | .invokevirtual _ | .invokestatic _ | .invokespecial _ => 3
  | _ => 1
def aKn (x : Nat) : Nat := ((aMt[x]?).map (fun q => q.2.2.2.2.2.2.1)).getD 9
def aNa (x : Nat) : Nat := ((aMt[x]?).map (fun q => q.2.2.2.2.2.1)).getD 99
def aInfo (o : Nat) (ini : Bool) (pc len : Nat) (i : Instr) (x y : Nat) (c : Int32) (sw : List (Int32 × Nat)) : Bool := match i with
  | .iconst n => Int32.ofInt n == c
  | .bipush n => (Int8.ofInt n).toInt32 == c
  | .sipush n => (Int16.ofInt n).toInt32 == c
  | .ldc j => if y = 0 then aCt.contains (o, j, c) else aSr.contains (o, j, x)
  | .ldc_w j => aCt.contains (o, j, c)
  | .ldc2_w j => aCl.contains (o, j, x)
  | .getfield j => if x = 50 then aFs.contains (o, j, y) else aFl.contains (o, j, x, y) && decide (x < 9 ∧ y < aLen x)
  | .putfield j => aFl.contains (o, j, x, y) && decide (x < 9 ∧ y < aLen x) && (!(aT x y).2.2.2 || (ini && decide ((aT x y).1 = aO o)))
  | .getstatic j => if x = 1 then aGi.contains (o, j) else (aGs.contains (o, j, x) || aGn.contains (o, j, x)) && decide (1000 ≤ x ∧ x < 1003)
  | .ifCond _ f => decide ((pc : Int) + f = (x : Int))
  | .if_icmp _ f => decide ((pc : Int) + f = (x : Int))
  | .ifnull f => decide ((pc : Int) + f = (x : Int))
  | .ifnonnull f => decide ((pc : Int) + f = (x : Int))
  | .goto f => decide ((pc : Int) + f = (x : Int))
  | .tableswitch d lo hi offs => decide ((pc : Int) + d = (x : Int)) && decide (offs.size = sw.length) && decide (lo + sw.length = hi + 1) && sw.zipIdx.all (fun e => decide (e.1.1.toInt = lo + e.2) && decide ((offs[e.2]?).map (fun f => (pc : Int) + f) = some (e.1.2 : Int)))
  | .lookupswitch d ps => decide ((pc : Int) + d = (x : Int)) && (ps.toList.zip (ps.toList.drop 1)).all (fun (a, next) => a.1 < next.1) && decide (ps.toList.map (fun e => (e.1, (pc : Int) + e.2)) = sw.map (fun e => (e.1.toInt, (e.2 : Int))))
  | .iinc _ n => Int32.ofInt n == c
  | .newarray t => aAty t != 99
  | .anewarray j => decide (22 ≤ x ∧ x ≤ 24) && aNw.contains (o, j, aKc x)
  | .new j => aNw.contains (o, j, x) && decide (x < 9)
  | .invokevirtual j => aIv.contains (o, j, x) && decide (aKn x = 1 ∧ aNa x = y % 100 + 1 ∧ aOc[x]? = some (y / 100))
  | .invokestatic j => if x = 900 ∨ x = 901 ∨ x = 902 then aBl.contains (o, j, x) else if x = 999 then true else (aIv.contains (o, j, x) || aIn.contains (o, j, x)) && decide (aKn x = 0 ∧ aNa x = y)
  | .invokespecial j => if x = 904 then aBl.contains (o, j, x) else (aIv.contains (o, j, x) || aIn.contains (o, j, x)) && decide (aKn x = 2 ∧ aNa x = y + 1)
  | _ => true
def aSwi : Instr → Bool
  | .tableswitch _ _ _ _ => true
  | .lookupswitch _ _ => true
  | _ => false
def aChk (o : Nat) (b : ByteArray) (ini : Bool) (q : aCI) : Bool := decide (decode b q.1 = .ok (q.2.2.1, q.2.1)) && (aSwi q.2.2.1 || decide (q.2.1 = aLn q.2.2.1)) && aInfo o ini q.1 q.2.1 q.2.2.1 q.2.2.2.1 q.2.2.2.2.1 q.2.2.2.2.2.1 q.2.2.2.2.2.2
theorem k_0 : cd_0.all (fun l => l.all (aChk 0 cX0_init true)) = true := by decide +kernel
theorem k_1 : cd_1.all (fun l => l.all (aChk 0 cX0_copyFrom false)) = true := by decide +kernel
theorem k_2 : cd_2.all (fun l => l.all (aChk 0 cX0_personAt false)) = true := by decide +kernel
theorem k_3 : cd_3.all (fun l => l.all (aChk 0 cX0_thingAt false)) = true := by decide +kernel
theorem k_4 : cd_4.all (fun l => l.all (aChk 0 cX0_lawOf false)) = true := by decide +kernel
theorem k_5 : cd_5.all (fun l => l.all (aChk 0 cX0_inside false)) = true := by decide +kernel
theorem k_6 : cd_6.all (fun l => l.all (aChk 0 cX0_insideOf false)) = true := by decide +kernel
theorem k_7 : cd_7.all (fun l => l.all (aChk 0 cX0_appealOf false)) = true := by decide +kernel
theorem k_8 : cd_8.all (fun l => l.all (aChk 0 cX0_pullOf false)) = true := by decide +kernel
theorem k_9 : cd_9.all (fun l => l.all (aChk 0 cX0_wantedBy false)) = true := by decide +kernel
theorem k_10 : cd_10.all (fun l => l.all (aChk 0 cX0_wantersOf false)) = true := by decide +kernel
theorem k_11 : cd_11.all (fun l => l.all (aChk 0 cX0_robbedBy false)) = true := by decide +kernel
theorem k_12 : cd_12.all (fun l => l.all (aChk 0 cX0_firstToBeStolen false)) = true := by decide +kernel
theorem k_13 : cd_13.all (fun l => l.all (aChk 0 cX0_takenBy false)) = true := by decide +kernel
theorem k_14 : cd_14.all (fun l => l.all (aChk 0 cX0_eat false)) = true := by decide +kernel
theorem k_15 : cd_15.all (fun l => l.all (aChk 0 cX0_throwOut false)) = true := by decide +kernel
theorem k_16 : cd_16.all (fun l => l.all (aChk 0 cX0_drawnBelow false)) = true := by decide +kernel
theorem k_17 : cd_17.all (fun l => l.all (aChk 0 cX0_hourByDraws false)) = true := by decide +kernel
theorem k_18 : cd_18.all (fun l => l.all (aChk 0 cX0_hourGoes false)) = true := by decide +kernel
theorem k_19 : cd_19.all (fun l => l.all (aChk 1 cX1_init true)) = true := by decide +kernel
theorem k_20 : cd_20.all (fun l => l.all (aChk 1 cX1_clear false)) = true := by decide +kernel
theorem k_21 : cd_21.all (fun l => l.all (aChk 1 cX1_hasText false)) = true := by decide +kernel
theorem k_22 : cd_22.all (fun l => l.all (aChk 1 cX1_copyFrom false)) = true := by decide +kernel
theorem k_23 : cd_23.all (fun l => l.all (aChk 1 cX1_append false)) = true := by decide +kernel
theorem k_24 : cd_24.all (fun l => l.all (aChk 1 cX1_gives false)) = true := by decide +kernel
theorem k_25 : cd_25.all (fun l => l.all (aChk 1 cX1_workedOut false)) = true := by decide +kernel
theorem k_26 : cd_26.all (fun l => l.all (aChk 1 cX1_named false)) = true := by decide +kernel
theorem k_27 : cd_27.all (fun l => l.all (aChk 1 cX1_joined false)) = true := by decide +kernel
theorem k_28 : cd_28.all (fun l => l.all (aChk 2 cX2_init true)) = true := by decide +kernel
theorem k_29 : cd_29.all (fun l => l.all (aChk 2 cX2_arrive false)) = true := by decide +kernel
theorem k_30 : cd_30.all (fun l => l.all (aChk 2 cX2_turnInto false)) = true := by decide +kernel
theorem k_31 : cd_31.all (fun l => l.all (aChk 2 cX2_copyFrom false)) = true := by decide +kernel
theorem k_32 : cd_32.all (fun l => l.all (aChk 2 cX2_isOfKind false)) = true := by decide +kernel
theorem k_33 : cd_33.all (fun l => l.all (aChk 2 cX2_owns false)) = true := by decide +kernel
theorem k_34 : cd_34.all (fun l => l.all (aChk 2 cX2_urgeFor false)) = true := by decide +kernel
theorem k_35 : cd_35.all (fun l => l.all (aChk 2 cX2_hungerForAnHour false)) = true := by decide +kernel
theorem k_36 : cd_36.all (fun l => l.all (aChk 2 cX2_loseOne false)) = true := by decide +kernel
theorem k_37 : cd_37.all (fun l => l.all (aChk 3 cX3_init true)) = true := by decide +kernel
theorem k_38 : cd_38.all (fun l => l.all (aChk 3 cX3_faultOf false)) = true := by decide +kernel
theorem k_39 : cd_39.all (fun l => l.all (aChk 3 cX3_readsChain false)) = true := by decide +kernel
theorem k_40 : cd_40.all (fun l => l.all (aChk 3 cX3_readsOperand false)) = true := by decide +kernel
theorem k_41 : cd_41.all (fun l => l.all (aChk 3 cX3_readsDenied false)) = true := by decide +kernel
theorem k_42 : cd_42.all (fun l => l.all (aChk 3 cX3_readsClosed false)) = true := by decide +kernel
theorem k_43 : cd_43.all (fun l => l.all (aChk 3 cX3_readNumber false)) = true := by decide +kernel
theorem k_44 : cd_44.all (fun l => l.all (aChk 3 cX3_levelOf false)) = true := by decide +kernel
theorem k_45 : cd_45.all (fun l => l.all (aChk 4 cX4_init true)) = true := by decide +kernel
theorem k_46 : cd_46.all (fun l => l.all (aChk 4 cX4_isMissing false)) = true := by decide +kernel
theorem k_47 : cd_47.all (fun l => l.all (aChk 4 cX4_lay false)) = true := by decide +kernel
theorem k_48 : cd_48.all (fun l => l.all (aChk 4 cX4_holds false)) = true := by decide +kernel
theorem k_49 : cd_49.all (fun l => l.all (aChk 4 cX4_write false)) = true := by decide +kernel
theorem k_50 : cd_50.all (fun l => l.all (aChk 5 cX5_init true)) = true := by decide +kernel
theorem k_51 : cd_51.all (fun l => l.all (aChk 5 cX5_arrive false)) = true := by decide +kernel
theorem k_52 : cd_52.all (fun l => l.all (aChk 5 cX5_copyFrom false)) = true := by decide +kernel
theorem k_53 : cd_53.all (fun l => l.all (aChk 5 cX5_canBeTaken false)) = true := by decide +kernel
theorem k_54 : cd_54.all (fun l => l.all (aChk 5 cX5_leave false)) = true := by decide +kernel
theorem k_55 : cd_55.all (fun l => l.all (aChk 5 cX5_comeBack false)) = true := by decide +kernel
theorem k_56 : cd_56.all (fun l => l.all (aChk 5 cX5_grow false)) = true := by decide +kernel
theorem k_57 : cd_57.all (fun l => l.all (aChk 6 cX6_init true)) = true := by decide +kernel
theorem k_58 : cd_58.all (fun l => l.all (aChk 6 cX6_speaks false)) = true := by decide +kernel
theorem k_59 : cd_59.all (fun l => l.all (aChk 6 cX6_say false)) = true := by decide +kernel
theorem k_60 : cd_60.all (fun l => l.all (aChk 6 cX6_bearerOf false)) = true := by decide +kernel
theorem k_61 : cd_61.all (fun l => l.all (aChk 6 cX6_begin false)) = true := by decide +kernel
theorem k_62 : cd_62.all (fun l => l.all (aChk 6 cX6_partedIn false)) = true := by decide +kernel
theorem k_63 : cd_63.all (fun l => l.all (aChk 7 cX7_init true)) = true := by decide +kernel
theorem k_64 : cd_64.all (fun l => l.all (aChk 7 cX7_person false)) = true := by decide +kernel
theorem k_65 : cd_65.all (fun l => l.all (aChk 7 cX7_personIs false)) = true := by decide +kernel
theorem k_66 : cd_66.all (fun l => l.all (aChk 7 cX7_become false)) = true := by decide +kernel
theorem k_67 : cd_67.all (fun l => l.all (aChk 7 cX7_as false)) = true := by decide +kernel
theorem k_68 : cd_68.all (fun l => l.all (aChk 7 cX7_feel false)) = true := by decide +kernel
theorem k_69 : cd_69.all (fun l => l.all (aChk 7 cX7_thing false)) = true := by decide +kernel
theorem k_70 : cd_70.all (fun l => l.all (aChk 7 cX7_thingIs false)) = true := by decide +kernel
theorem k_71 : cd_71.all (fun l => l.all (aChk 7 cX7_mark false)) = true := by decide +kernel
theorem k_72 : cd_72.all (fun l => l.all (aChk 7 cX7_anew false)) = true := by decide +kernel
theorem k_73 : cd_73.all (fun l => l.all (aChk 7 cX7_feed false)) = true := by decide +kernel
theorem k_74 : cd_74.all (fun l => l.all (aChk 7 cX7_text false)) = true := by decide +kernel
theorem k_75 : cd_75.all (fun l => l.all (aChk 7 cX7_untell false)) = true := by decide +kernel
theorem k_76 : cd_76.all (fun l => l.all (aChk 7 cX7_law false)) = true := by decide +kernel
theorem k_77 : cd_77.all (fun l => l.all (aChk 7 cX7_urge false)) = true := by decide +kernel
theorem k_78 : cd_78.all (fun l => l.all (aChk 7 cX7_guard false)) = true := by decide +kernel
theorem k_79 : cd_79.all (fun l => l.all (aChk 7 cX7_comes false)) = true := by decide +kernel
theorem k_80 : cd_80.all (fun l => l.all (aChk 7 cX7_hours false)) = true := by decide +kernel
theorem k_81 : cd_81.all (fun l => l.all (aChk 7 cX7_friday false)) = true := by decide +kernel
theorem k_82 : cd_82.all (fun l => l.all (aChk 7 cX7_seed false)) = true := by decide +kernel
theorem k_83 : cd_83.all (fun l => l.all (aChk 7 cX7_wants false)) = true := by decide +kernel
theorem k_84 : cd_84.all (fun l => l.all (aChk 7 cX7_trap false)) = true := by decide +kernel
theorem k_85 : cd_85.all (fun l => l.all (aChk 7 cX7_safest false)) = true := by decide +kernel
theorem k_86 : cd_86.all (fun l => l.all (aChk 7 cX7_lock false)) = true := by decide +kernel
theorem k_87 : cd_87.all (fun l => l.all (aChk 7 cX7_round false)) = true := by decide +kernel
theorem k_88 : cd_88.all (fun l => l.all (aChk 7 cX7_odds false)) = true := by decide +kernel
theorem k_89 : cd_89.all (fun l => l.all (aChk 7 cX7_who false)) = true := by decide +kernel
theorem k_90 : cd_90.all (fun l => l.all (aChk 7 cX7_lost false)) = true := by decide +kernel
theorem k_91 : cd_91.all (fun l => l.all (aChk 7 cX7_oldest false)) = true := by decide +kernel
theorem k_92 : cd_92.all (fun l => l.all (aChk 7 cX7_voice false)) = true := by decide +kernel
theorem k_93 : cd_93.all (fun l => l.all (aChk 7 cX7_body false)) = true := by decide +kernel
theorem k_94 : cd_94.all (fun l => l.all (aChk 7 cX7_sheet false)) = true := by decide +kernel
theorem k_95 : cd_95.all (fun l => l.all (aChk 7 cX7_put false)) = true := by decide +kernel
theorem k_96 : cd_96.all (fun l => l.all (aChk 7 cX7_move false)) = true := by decide +kernel
theorem k_97 : cd_97.all (fun l => l.all (aChk 7 cX7_labels false)) = true := by decide +kernel
theorem k_98 : cd_98.all (fun l => l.all (aChk 7 cX7_judge false)) = true := by decide +kernel
theorem k_99 : cd_99.all (fun l => l.all (aChk 7 cX7_image false)) = true := by decide +kernel
theorem k_100 : cd_100.all (fun l => l.all (aChk 7 cX7_restore false)) = true := by decide +kernel
theorem k_101 : cd_101.all (fun l => l.all (aChk 7 cX7_tell false)) = true := by decide +kernel
theorem k_102 : cd_102.all (fun l => l.all (aChk 7 cX7_check false)) = true := by decide +kernel
theorem k_103 : cd_103.all (fun l => l.all (aChk 7 cX7_count false)) = true := by decide +kernel
theorem k_104 : cd_104.all (fun l => l.all (aChk 7 cX7_told false)) = true := by decide +kernel
theorem k_105 : cd_105.all (fun l => l.all (aChk 7 cX7_refuse false)) = true := by decide +kernel
theorem k_106 : cd_106.all (fun l => l.all (aChk 7 cX7_isIn false)) = true := by decide +kernel
theorem k_107 : cd_107.all (fun l => l.all (aChk 7 cX7_isUse false)) = true := by decide +kernel
theorem k_108 : cd_108.all (fun l => l.all (aChk 7 cX7_isKindAndNumber false)) = true := by decide +kernel
theorem k_109 : cd_109.all (fun l => l.all (aChk 7 cX7_canFeel false)) = true := by decide +kernel
theorem k_110 : cd_110.all (fun l => l.all (aChk 7 cX7_sheetAt false)) = true := by decide +kernel
theorem k_111 : cd_111.all (fun l => l.all (aChk 7 cX7_othersWanting false)) = true := by decide +kernel
theorem k_112 : cd_112.all (fun l => l.all (aChk 7 cX7_locksForPeace false)) = true := by decide +kernel
theorem k_113 : cd_113.all (fun l => l.all (aChk 7 cX7_greatestCommon false)) = true := by decide +kernel
theorem k_114 : cd_114.all (fun l => l.all (aChk 7 cX7_wouldTake false)) = true := by decide +kernel
theorem k_115 : cd_115.all (fun l => l.all (aChk 8 cX8_init true)) = true := by decide +kernel
theorem k_116 : cd_116.all (fun l => l.all (aChk 8 cX8_error false)) = true := by decide +kernel
theorem k_117 : cd_117.all (fun l => l.all (aChk 8 cX8_in false)) = true := by decide +kernel
theorem k_118 : cd_118.all (fun l => l.all (aChk 8 cX8_held false)) = true := by decide +kernel
theorem k_119 : cd_119.all (fun l => l.all (aChk 8 cX8_carry false)) = true := by decide +kernel
theorem k_120 : cd_120.all (fun l => l.all (aChk 8 cX8_layDown false)) = true := by decide +kernel
theorem k_121 : cd_121.all (fun l => l.all (aChk 8 cX8_layBack false)) = true := by decide +kernel
theorem k_122 : cd_122.all (fun l => l.all (aChk 8 cX8_isPerson false)) = true := by decide +kernel
theorem k_123 : cd_123.all (fun l => l.all (aChk 8 cX8_isThing false)) = true := by decide +kernel
theorem k_124 : cd_124.all (fun l => l.all (aChk 8 cX8_its false)) = true := by decide +kernel
theorem k_125 : cd_125.all (fun l => l.all (aChk 8 cX8_lays1 false)) = true := by decide +kernel
theorem k_126 : cd_126.all (fun l => l.all (aChk 8 cX8_of false)) = true := by decide +kernel
theorem k_127 : cd_127.all (fun l => l.all (aChk 8 cX8_lays2 false)) = true := by decide +kernel
theorem k_128 : cd_128.all (fun l => l.all (aChk 8 cX8_change1 false)) = true := by decide +kernel
theorem k_129 : cd_129.all (fun l => l.all (aChk 8 cX8_isThere false)) = true := by decide +kernel
theorem k_130 : cd_130.all (fun l => l.all (aChk 8 cX8_howMany false)) = true := by decide +kernel
theorem k_131 : cd_131.all (fun l => l.all (aChk 8 cX8_feed false)) = true := by decide +kernel
theorem k_132 : cd_132.all (fun l => l.all (aChk 8 cX8_look false)) = true := by decide +kernel
theorem k_133 : cd_133.all (fun l => l.all (aChk 8 cX8_isName false)) = true := by decide +kernel
theorem k_134 : cd_134.all (fun l => l.all (aChk 8 cX8_step1 false)) = true := by decide +kernel
theorem k_135 : cd_135.all (fun l => l.all (aChk 8 cX8_whole false)) = true := by decide +kernel
theorem k_136 : cd_136.all (fun l => l.all (aChk 8 cX8_both false)) = true := by decide +kernel
theorem k_137 : cd_137.all (fun l => l.all (aChk 8 cX8_compared false)) = true := by decide +kernel
theorem k_138 : cd_138.all (fun l => l.all (aChk 8 cX8_sum false)) = true := by decide +kernel
theorem k_139 : cd_139.all (fun l => l.all (aChk 8 cX8_product false)) = true := by decide +kernel
theorem k_140 : cd_140.all (fun l => l.all (aChk 8 cX8_opens false)) = true := by decide +kernel
theorem k_141 : cd_141.all (fun l => l.all (aChk 8 cX8_one false)) = true := by decide +kernel
theorem k_142 : cd_142.all (fun l => l.all (aChk 8 cX8_hasText false)) = true := by decide +kernel
theorem k_143 : cd_143.all (fun l => l.all (aChk 8 cX8_text false)) = true := by decide +kernel
theorem k_144 : cd_144.all (fun l => l.all (aChk 8 cX8_untell false)) = true := by decide +kernel
theorem k_145 : cd_145.all (fun l => l.all (aChk 8 cX8_joined false)) = true := by decide +kernel
theorem k_146 : cd_146.all (fun l => l.all (aChk 8 cX8_worked false)) = true := by decide +kernel
theorem k_147 : cd_147.all (fun l => l.all (aChk 8 cX8_appealTold false)) = true := by decide +kernel
theorem k_148 : cd_148.all (fun l => l.all (aChk 8 cX8_guardTold false)) = true := by decide +kernel
theorem k_149 : cd_149.all (fun l => l.all (aChk 8 cX8_appeal false)) = true := by decide +kernel
theorem k_150 : cd_150.all (fun l => l.all (aChk 8 cX8_guardOf false)) = true := by decide +kernel
theorem k_151 : cd_151.all (fun l => l.all (aChk 8 cX8_asPerson false)) = true := by decide +kernel
theorem k_152 : cd_152.all (fun l => l.all (aChk 8 cX8_asTaker false)) = true := by decide +kernel
theorem k_153 : cd_153.all (fun l => l.all (aChk 8 cX8_asAvenger false)) = true := by decide +kernel
theorem k_154 : cd_154.all (fun l => l.all (aChk 8 cX8_urgeOf false)) = true := by decide +kernel
theorem k_155 : cd_155.all (fun l => l.all (aChk 8 cX8_drawn false)) = true := by decide +kernel
theorem k_156 : cd_156.all (fun l => l.all (aChk 8 cX8_canGo false)) = true := by decide +kernel
theorem k_157 : cd_157.all (fun l => l.all (aChk 8 cX8_wanted false)) = true := by decide +kernel
theorem k_158 : cd_158.all (fun l => l.all (aChk 8 cX8_more false)) = true := by decide +kernel
theorem k_159 : cd_159.all (fun l => l.all (aChk 8 cX8_comesNow false)) = true := by decide +kernel
theorem k_160 : cd_160.all (fun l => l.all (aChk 8 cX8_hourGoes false)) = true := by decide +kernel
theorem k_161 : cd_161.all (fun l => l.all (aChk 8 cX8_draw false)) = true := by decide +kernel
theorem k_162 : cd_162.all (fun l => l.all (aChk 8 cX8_drawnHour false)) = true := by decide +kernel
theorem k_163 : cd_163.all (fun l => l.all (aChk 8 cX8_isKind false)) = true := by decide +kernel
theorem k_164 : cd_164.all (fun l => l.all (aChk 8 cX8_person false)) = true := by decide +kernel
theorem k_165 : cd_165.all (fun l => l.all (aChk 8 cX8_hisThings false)) = true := by decide +kernel
theorem k_166 : cd_166.all (fun l => l.all (aChk 8 cX8_personIs false)) = true := by decide +kernel
theorem k_167 : cd_167.all (fun l => l.all (aChk 8 cX8_become false)) = true := by decide +kernel
theorem k_168 : cd_168.all (fun l => l.all (aChk 8 cX8_as false)) = true := by decide +kernel
theorem k_169 : cd_169.all (fun l => l.all (aChk 8 cX8_feel false)) = true := by decide +kernel
theorem k_170 : cd_170.all (fun l => l.all (aChk 8 cX8_greatest false)) = true := by decide +kernel
theorem k_171 : cd_171.all (fun l => l.all (aChk 8 cX8_thing false)) = true := by decide +kernel
theorem k_172 : cd_172.all (fun l => l.all (aChk 8 cX8_thingIs false)) = true := by decide +kernel
theorem k_173 : cd_173.all (fun l => l.all (aChk 8 cX8_mark false)) = true := by decide +kernel
theorem k_174 : cd_174.all (fun l => l.all (aChk 8 cX8_anew false)) = true := by decide +kernel
theorem k_175 : cd_175.all (fun l => l.all (aChk 8 cX8_law false)) = true := by decide +kernel
theorem k_176 : cd_176.all (fun l => l.all (aChk 8 cX8_urge false)) = true := by decide +kernel
theorem k_177 : cd_177.all (fun l => l.all (aChk 8 cX8_guard false)) = true := by decide +kernel
theorem k_178 : cd_178.all (fun l => l.all (aChk 8 cX8_comes false)) = true := by decide +kernel
theorem k_179 : cd_179.all (fun l => l.all (aChk 8 cX8_hours false)) = true := by decide +kernel
theorem k_180 : cd_180.all (fun l => l.all (aChk 8 cX8_friday false)) = true := by decide +kernel
theorem k_181 : cd_181.all (fun l => l.all (aChk 8 cX8_seed false)) = true := by decide +kernel
theorem k_182 : cd_182.all (fun l => l.all (aChk 8 cX8_wants false)) = true := by decide +kernel
theorem k_183 : cd_183.all (fun l => l.all (aChk 8 cX8_trap false)) = true := by decide +kernel
theorem k_184 : cd_184.all (fun l => l.all (aChk 8 cX8_othersWant false)) = true := by decide +kernel
theorem k_185 : cd_185.all (fun l => l.all (aChk 8 cX8_safest false)) = true := by decide +kernel
theorem k_186 : cd_186.all (fun l => l.all (aChk 8 cX8_isPeace false)) = true := by decide +kernel
theorem k_187 : cd_187.all (fun l => l.all (aChk 8 cX8_bitsOf false)) = true := by decide +kernel
theorem k_188 : cd_188.all (fun l => l.all (aChk 8 cX8_lock false)) = true := by decide +kernel
theorem k_189 : cd_189.all (fun l => l.all (aChk 8 cX8_robs false)) = true := by decide +kernel
theorem k_190 : cd_190.all (fun l => l.all (aChk 8 cX8_round false)) = true := by decide +kernel
theorem k_191 : cd_191.all (fun l => l.all (aChk 8 cX8_divisor false)) = true := by decide +kernel
theorem k_192 : cd_192.all (fun l => l.all (aChk 8 cX8_odds false)) = true := by decide +kernel
theorem k_193 : cd_193.all (fun l => l.all (aChk 8 cX8_who false)) = true := by decide +kernel
theorem k_194 : cd_194.all (fun l => l.all (aChk 8 cX8_lost false)) = true := by decide +kernel
theorem k_195 : cd_195.all (fun l => l.all (aChk 8 cX8_oldest false)) = true := by decide +kernel
theorem k_196 : cd_196.all (fun l => l.all (aChk 8 cX8_begins false)) = true := by decide +kernel
theorem k_197 : cd_197.all (fun l => l.all (aChk 8 cX8_above false)) = true := by decide +kernel
theorem k_198 : cd_198.all (fun l => l.all (aChk 8 cX8_kindNow false)) = true := by decide +kernel
theorem k_199 : cd_199.all (fun l => l.all (aChk 8 cX8_mNow false)) = true := by decide +kernel
theorem k_200 : cd_200.all (fun l => l.all (aChk 8 cX8_sniffsAs false)) = true := by decide +kernel
theorem k_201 : cd_201.all (fun l => l.all (aChk 8 cX8_marksAs false)) = true := by decide +kernel
theorem k_202 : cd_202.all (fun l => l.all (aChk 8 cX8_swearsAs false)) = true := by decide +kernel
theorem k_203 : cd_203.all (fun l => l.all (aChk 8 cX8_partsAs false)) = true := by decide +kernel
theorem k_204 : cd_204.all (fun l => l.all (aChk 8 cX8_voice false)) = true := by decide +kernel
theorem k_205 : cd_205.all (fun l => l.all (aChk 8 cX8_body false)) = true := by decide +kernel
theorem k_206 : cd_206.all (fun l => l.all (aChk 8 cX8_isSheet false)) = true := by decide +kernel
theorem k_207 : cd_207.all (fun l => l.all (aChk 8 cX8_sheet false)) = true := by decide +kernel
theorem k_208 : cd_208.all (fun l => l.all (aChk 8 cX8_put false)) = true := by decide +kernel
theorem k_209 : cd_209.all (fun l => l.all (aChk 8 cX8_move false)) = true := by decide +kernel
theorem k_210 : cd_210.all (fun l => l.all (aChk 8 cX8_lacks false)) = true := by decide +kernel
theorem k_211 : cd_211.all (fun l => l.all (aChk 8 cX8_labels false)) = true := by decide +kernel
theorem k_212 : cd_212.all (fun l => l.all (aChk 8 cX8_judge false)) = true := by decide +kernel
theorem k_213 : cd_213.all (fun l => l.all (aChk 8 cX8_image false)) = true := by decide +kernel
theorem k_214 : cd_214.all (fun l => l.all (aChk 8 cX8_restore false)) = true := by decide +kernel
theorem k_215 : cd_215.all (fun l => l.all (aChk 8 cX8_tell false)) = true := by decide +kernel
theorem k_216 : cd_216.all (fun l => l.all (aChk 8 cX8_check false)) = true := by decide +kernel
theorem k_217 : cd_217.all (fun l => l.all (aChk 8 cX8_count false)) = true := by decide +kernel
theorem k_218 : cd_218.all (fun l => l.all (aChk 8 cX8_told false)) = true := by decide +kernel
theorem k_219 : cd_219.all (fun l => l.all (aChk 10 cJ6_bitCount_0f7a4 false)) = true := by decide +kernel
theorem k_220 : cd_220.all (fun l => l.all (aChk 11 cJ7_fill_53178 false)) = true := by decide +kernel
theorem k_221 : cd_221.all (fun l => l.all (aChk 12 cJ0_indexOf_0f7a4 false)) = true := by decide +kernel
theorem k_222 : cd_222.all (fun l => l.all (aChk 12 cJ0_indexOf_7cf53 false)) = true := by decide +kernel
theorem k_223 : cd_223.all (fun l => l.all (aChk 12 cJ0_isLatin1_aae02 false)) = true := by decide +kernel
theorem k_224 : cd_224.all (fun l => l.all (aChk 12 cJ0_length_8abf5 false)) = true := by decide +kernel
theorem k_225 : cd_225.all (fun l => l.all (aChk 12 cJ0_coder_7d493 false)) = true := by decide +kernel
theorem k_226 : cd_226.all (fun l => l.all (aChk 13 cJ1_indexOf_4cfef false)) = true := by decide +kernel
theorem k_227 : cd_227.all (fun l => l.all (aChk 13 cJ1_canEncode_9a6ad false)) = true := by decide +kernel
theorem k_228 : cd_228.all (fun l => l.all (aChk 13 cJ1_indexOfChar_4cfef false)) = true := by decide +kernel
set_option maxRecDepth 100000 in
theorem aCd_ok : ∀ e ∈ aMt.zip aOc, e.1.2.2.2.2.2.2.2.all (fun l => l.all (aChk e.2 e.1.2.1 (e.1.2.2.2.2.2.2.1 == 2))) = true :=
  List.forall_mem_cons.mpr ⟨k_0, List.forall_mem_cons.mpr ⟨k_1, List.forall_mem_cons.mpr ⟨k_2, List.forall_mem_cons.mpr ⟨k_3, List.forall_mem_cons.mpr ⟨k_4, List.forall_mem_cons.mpr ⟨k_5, List.forall_mem_cons.mpr ⟨k_6, List.forall_mem_cons.mpr ⟨k_7, List.forall_mem_cons.mpr ⟨k_8, List.forall_mem_cons.mpr ⟨k_9, List.forall_mem_cons.mpr ⟨k_10, List.forall_mem_cons.mpr ⟨k_11, List.forall_mem_cons.mpr ⟨k_12, List.forall_mem_cons.mpr ⟨k_13, List.forall_mem_cons.mpr ⟨k_14, List.forall_mem_cons.mpr ⟨k_15, List.forall_mem_cons.mpr ⟨k_16, List.forall_mem_cons.mpr ⟨k_17, List.forall_mem_cons.mpr ⟨k_18, List.forall_mem_cons.mpr ⟨k_19, List.forall_mem_cons.mpr ⟨k_20, List.forall_mem_cons.mpr ⟨k_21, List.forall_mem_cons.mpr ⟨k_22, List.forall_mem_cons.mpr ⟨k_23, List.forall_mem_cons.mpr ⟨k_24, List.forall_mem_cons.mpr ⟨k_25, List.forall_mem_cons.mpr ⟨k_26, List.forall_mem_cons.mpr ⟨k_27, List.forall_mem_cons.mpr ⟨k_28, List.forall_mem_cons.mpr ⟨k_29, List.forall_mem_cons.mpr ⟨k_30, List.forall_mem_cons.mpr ⟨k_31, List.forall_mem_cons.mpr ⟨k_32, List.forall_mem_cons.mpr ⟨k_33, List.forall_mem_cons.mpr ⟨k_34, List.forall_mem_cons.mpr ⟨k_35, List.forall_mem_cons.mpr ⟨k_36, List.forall_mem_cons.mpr ⟨k_37, List.forall_mem_cons.mpr ⟨k_38, List.forall_mem_cons.mpr ⟨k_39, List.forall_mem_cons.mpr ⟨k_40, List.forall_mem_cons.mpr ⟨k_41, List.forall_mem_cons.mpr ⟨k_42, List.forall_mem_cons.mpr ⟨k_43, List.forall_mem_cons.mpr ⟨k_44, List.forall_mem_cons.mpr ⟨k_45, List.forall_mem_cons.mpr ⟨k_46, List.forall_mem_cons.mpr ⟨k_47, List.forall_mem_cons.mpr ⟨k_48, List.forall_mem_cons.mpr ⟨k_49, List.forall_mem_cons.mpr ⟨k_50, List.forall_mem_cons.mpr ⟨k_51, List.forall_mem_cons.mpr ⟨k_52, List.forall_mem_cons.mpr ⟨k_53, List.forall_mem_cons.mpr ⟨k_54, List.forall_mem_cons.mpr ⟨k_55, List.forall_mem_cons.mpr ⟨k_56, List.forall_mem_cons.mpr ⟨k_57, List.forall_mem_cons.mpr ⟨k_58, List.forall_mem_cons.mpr ⟨k_59, List.forall_mem_cons.mpr ⟨k_60, List.forall_mem_cons.mpr ⟨k_61, List.forall_mem_cons.mpr ⟨k_62, List.forall_mem_cons.mpr ⟨k_63, List.forall_mem_cons.mpr ⟨k_64, List.forall_mem_cons.mpr ⟨k_65, List.forall_mem_cons.mpr ⟨k_66, List.forall_mem_cons.mpr ⟨k_67, List.forall_mem_cons.mpr ⟨k_68, List.forall_mem_cons.mpr ⟨k_69, List.forall_mem_cons.mpr ⟨k_70, List.forall_mem_cons.mpr ⟨k_71, List.forall_mem_cons.mpr ⟨k_72, List.forall_mem_cons.mpr ⟨k_73, List.forall_mem_cons.mpr ⟨k_74, List.forall_mem_cons.mpr ⟨k_75, List.forall_mem_cons.mpr ⟨k_76, List.forall_mem_cons.mpr ⟨k_77, List.forall_mem_cons.mpr ⟨k_78, List.forall_mem_cons.mpr ⟨k_79, List.forall_mem_cons.mpr ⟨k_80, List.forall_mem_cons.mpr ⟨k_81, List.forall_mem_cons.mpr ⟨k_82, List.forall_mem_cons.mpr ⟨k_83, List.forall_mem_cons.mpr ⟨k_84, List.forall_mem_cons.mpr ⟨k_85, List.forall_mem_cons.mpr ⟨k_86, List.forall_mem_cons.mpr ⟨k_87, List.forall_mem_cons.mpr ⟨k_88, List.forall_mem_cons.mpr ⟨k_89, List.forall_mem_cons.mpr ⟨k_90, List.forall_mem_cons.mpr ⟨k_91, List.forall_mem_cons.mpr ⟨k_92, List.forall_mem_cons.mpr ⟨k_93, List.forall_mem_cons.mpr ⟨k_94, List.forall_mem_cons.mpr ⟨k_95, List.forall_mem_cons.mpr ⟨k_96, List.forall_mem_cons.mpr ⟨k_97, List.forall_mem_cons.mpr ⟨k_98, List.forall_mem_cons.mpr ⟨k_99, List.forall_mem_cons.mpr ⟨k_100, List.forall_mem_cons.mpr ⟨k_101, List.forall_mem_cons.mpr ⟨k_102, List.forall_mem_cons.mpr ⟨k_103, List.forall_mem_cons.mpr ⟨k_104, List.forall_mem_cons.mpr ⟨k_105, List.forall_mem_cons.mpr ⟨k_106, List.forall_mem_cons.mpr ⟨k_107, List.forall_mem_cons.mpr ⟨k_108, List.forall_mem_cons.mpr ⟨k_109, List.forall_mem_cons.mpr ⟨k_110, List.forall_mem_cons.mpr ⟨k_111, List.forall_mem_cons.mpr ⟨k_112, List.forall_mem_cons.mpr ⟨k_113, List.forall_mem_cons.mpr ⟨k_114, List.forall_mem_cons.mpr ⟨k_115, List.forall_mem_cons.mpr ⟨k_116, List.forall_mem_cons.mpr ⟨k_117, List.forall_mem_cons.mpr ⟨k_118, List.forall_mem_cons.mpr ⟨k_119, List.forall_mem_cons.mpr ⟨k_120, List.forall_mem_cons.mpr ⟨k_121, List.forall_mem_cons.mpr ⟨k_122, List.forall_mem_cons.mpr ⟨k_123, List.forall_mem_cons.mpr ⟨k_124, List.forall_mem_cons.mpr ⟨k_125, List.forall_mem_cons.mpr ⟨k_126, List.forall_mem_cons.mpr ⟨k_127, List.forall_mem_cons.mpr ⟨k_128, List.forall_mem_cons.mpr ⟨k_129, List.forall_mem_cons.mpr ⟨k_130, List.forall_mem_cons.mpr ⟨k_131, List.forall_mem_cons.mpr ⟨k_132, List.forall_mem_cons.mpr ⟨k_133, List.forall_mem_cons.mpr ⟨k_134, List.forall_mem_cons.mpr ⟨k_135, List.forall_mem_cons.mpr ⟨k_136, List.forall_mem_cons.mpr ⟨k_137, List.forall_mem_cons.mpr ⟨k_138, List.forall_mem_cons.mpr ⟨k_139, List.forall_mem_cons.mpr ⟨k_140, List.forall_mem_cons.mpr ⟨k_141, List.forall_mem_cons.mpr ⟨k_142, List.forall_mem_cons.mpr ⟨k_143, List.forall_mem_cons.mpr ⟨k_144, List.forall_mem_cons.mpr ⟨k_145, List.forall_mem_cons.mpr ⟨k_146, List.forall_mem_cons.mpr ⟨k_147, List.forall_mem_cons.mpr ⟨k_148, List.forall_mem_cons.mpr ⟨k_149, List.forall_mem_cons.mpr ⟨k_150, List.forall_mem_cons.mpr ⟨k_151, List.forall_mem_cons.mpr ⟨k_152, List.forall_mem_cons.mpr ⟨k_153, List.forall_mem_cons.mpr ⟨k_154, List.forall_mem_cons.mpr ⟨k_155, List.forall_mem_cons.mpr ⟨k_156, List.forall_mem_cons.mpr ⟨k_157, List.forall_mem_cons.mpr ⟨k_158, List.forall_mem_cons.mpr ⟨k_159, List.forall_mem_cons.mpr ⟨k_160, List.forall_mem_cons.mpr ⟨k_161, List.forall_mem_cons.mpr ⟨k_162, List.forall_mem_cons.mpr ⟨k_163, List.forall_mem_cons.mpr ⟨k_164, List.forall_mem_cons.mpr ⟨k_165, List.forall_mem_cons.mpr ⟨k_166, List.forall_mem_cons.mpr ⟨k_167, List.forall_mem_cons.mpr ⟨k_168, List.forall_mem_cons.mpr ⟨k_169, List.forall_mem_cons.mpr ⟨k_170, List.forall_mem_cons.mpr ⟨k_171, List.forall_mem_cons.mpr ⟨k_172, List.forall_mem_cons.mpr ⟨k_173, List.forall_mem_cons.mpr ⟨k_174, List.forall_mem_cons.mpr ⟨k_175, List.forall_mem_cons.mpr ⟨k_176, List.forall_mem_cons.mpr ⟨k_177, List.forall_mem_cons.mpr ⟨k_178, List.forall_mem_cons.mpr ⟨k_179, List.forall_mem_cons.mpr ⟨k_180, List.forall_mem_cons.mpr ⟨k_181, List.forall_mem_cons.mpr ⟨k_182, List.forall_mem_cons.mpr ⟨k_183, List.forall_mem_cons.mpr ⟨k_184, List.forall_mem_cons.mpr ⟨k_185, List.forall_mem_cons.mpr ⟨k_186, List.forall_mem_cons.mpr ⟨k_187, List.forall_mem_cons.mpr ⟨k_188, List.forall_mem_cons.mpr ⟨k_189, List.forall_mem_cons.mpr ⟨k_190, List.forall_mem_cons.mpr ⟨k_191, List.forall_mem_cons.mpr ⟨k_192, List.forall_mem_cons.mpr ⟨k_193, List.forall_mem_cons.mpr ⟨k_194, List.forall_mem_cons.mpr ⟨k_195, List.forall_mem_cons.mpr ⟨k_196, List.forall_mem_cons.mpr ⟨k_197, List.forall_mem_cons.mpr ⟨k_198, List.forall_mem_cons.mpr ⟨k_199, List.forall_mem_cons.mpr ⟨k_200, List.forall_mem_cons.mpr ⟨k_201, List.forall_mem_cons.mpr ⟨k_202, List.forall_mem_cons.mpr ⟨k_203, List.forall_mem_cons.mpr ⟨k_204, List.forall_mem_cons.mpr ⟨k_205, List.forall_mem_cons.mpr ⟨k_206, List.forall_mem_cons.mpr ⟨k_207, List.forall_mem_cons.mpr ⟨k_208, List.forall_mem_cons.mpr ⟨k_209, List.forall_mem_cons.mpr ⟨k_210, List.forall_mem_cons.mpr ⟨k_211, List.forall_mem_cons.mpr ⟨k_212, List.forall_mem_cons.mpr ⟨k_213, List.forall_mem_cons.mpr ⟨k_214, List.forall_mem_cons.mpr ⟨k_215, List.forall_mem_cons.mpr ⟨k_216, List.forall_mem_cons.mpr ⟨k_217, List.forall_mem_cons.mpr ⟨k_218, List.forall_mem_cons.mpr ⟨k_219, List.forall_mem_cons.mpr ⟨k_220, List.forall_mem_cons.mpr ⟨k_221, List.forall_mem_cons.mpr ⟨k_222, List.forall_mem_cons.mpr ⟨k_223, List.forall_mem_cons.mpr ⟨k_224, List.forall_mem_cons.mpr ⟨k_225, List.forall_mem_cons.mpr ⟨k_226, List.forall_mem_cons.mpr ⟨k_227, List.forall_mem_cons.mpr ⟨k_228, fun _ h => absurd h List.not_mem_nil⟩⟩⟩⟩⟩⟩⟩⟩⟩⟩⟩⟩⟩⟩⟩⟩⟩⟩⟩⟩⟩⟩⟩⟩⟩⟩⟩⟩⟩⟩⟩⟩⟩⟩⟩⟩⟩⟩⟩⟩⟩⟩⟩⟩⟩⟩⟩⟩⟩⟩⟩⟩⟩⟩⟩⟩⟩⟩⟩⟩⟩⟩⟩⟩⟩⟩⟩⟩⟩⟩⟩⟩⟩⟩⟩⟩⟩⟩⟩⟩⟩⟩⟩⟩⟩⟩⟩⟩⟩⟩⟩⟩⟩⟩⟩⟩⟩⟩⟩⟩⟩⟩⟩⟩⟩⟩⟩⟩⟩⟩⟩⟩⟩⟩⟩⟩⟩⟩⟩⟩⟩⟩⟩⟩⟩⟩⟩⟩⟩⟩⟩⟩⟩⟩⟩⟩⟩⟩⟩⟩⟩⟩⟩⟩⟩⟩⟩⟩⟩⟩⟩⟩⟩⟩⟩⟩⟩⟩⟩⟩⟩⟩⟩⟩⟩⟩⟩⟩⟩⟩⟩⟩⟩⟩⟩⟩⟩⟩⟩⟩⟩⟩⟩⟩⟩⟩⟩⟩⟩⟩⟩⟩⟩⟩⟩⟩⟩⟩⟩⟩⟩⟩⟩⟩⟩⟩⟩⟩⟩⟩⟩⟩⟩⟩⟩⟩⟩⟩⟩⟩⟩⟩⟩⟩⟩⟩⟩⟩⟩
