/-- a row of a code table decodes as it says -/
def ckD (cc : ByteArray) (q : Nat × Nat × Instr) : Bool := match q.2.2 with
  | .tableswitch d lo hi offs => (match decode cc q.1 with
    | .ok (i, _) => decide (i = .tableswitch d lo hi offs)
    | _ => false)
  | .lookupswitch d ps => (match decode cc q.1 with
    | .ok (i, _) => decide (i = .lookupswitch d ps)
    | _ => false)
  | i => (match decode cc q.1 with
    | .ok (j, n) => decide (j = i) && Nat.beq n (gLen i)
    | _ => false)
set_option maxRecDepth 100000 in
theorem ckD_0 : mT0.all (ckD cX0_init) = true := by decide +kernel
set_option maxRecDepth 100000 in
theorem ckD_1 : mT1.all (ckD cX0_shape) = true := by decide +kernel
set_option maxRecDepth 100000 in
theorem ckD_2 : mT2.all (ckD cX0_at) = true := by decide +kernel
set_option maxRecDepth 100000 in
theorem ckD_3 : mT3.all (ckD cX0_wayTo) = true := by decide +kernel
set_option maxRecDepth 100000 in
theorem ckD_4 : mT4.all (ckD cX0_distance) = true := by decide +kernel
set_option maxRecDepth 100000 in
theorem ckD_5 : mT5.all (ckD cX1_init) = true := by decide +kernel
set_option maxRecDepth 100000 in
theorem ckD_6 : mT6.all (ckD cX1_cells) = true := by decide +kernel
set_option maxRecDepth 100000 in
theorem ckD_7 : mT7.all (ckD cX1_open) = true := by decide +kernel
set_option maxRecDepth 100000 in
theorem ckD_8 : mT8.all (ckD cX1_green) = true := by decide +kernel
set_option maxRecDepth 100000 in
theorem ckD_9 : mT9.all (ckD cX1_hasDoor) = true := by decide +kernel
set_option maxRecDepth 100000 in
theorem ckD_10 : mT10.all (ckD cX1_setKind) = true := by decide +kernel
set_option maxRecDepth 100000 in
theorem ckD_11 : mT11.all (ckD cX1_wishesThatAre) = true := by decide +kernel
set_option maxRecDepth 100000 in
theorem ckD_12 : mT12.all (ckD cX1_renew) = true := by decide +kernel
set_option maxRecDepth 100000 in
theorem ckD_13 : mT13.all (ckD cX1_copy) = true := by decide +kernel
set_option maxRecDepth 100000 in
theorem ckD_14 : mT14.all (ckD cX2_init) = true := by decide +kernel
set_option maxRecDepth 100000 in
theorem ckD_15 : mT15.all (ckD cX2_keep) = true := by decide +kernel
set_option maxRecDepth 100000 in
theorem ckD_16 : mT16.all (ckD cX2_size) = true := by decide +kernel
set_option maxRecDepth 100000 in
theorem ckD_17 : mT17.all (ckD cX2_alone) = true := by decide +kernel
set_option maxRecDepth 100000 in
theorem ckD_18 : mT18.all (ckD cX2_parts) = true := by decide +kernel
set_option maxRecDepth 100000 in
theorem ckD_19 : mT19.all (ckD cX2_hundredths) = true := by decide +kernel
set_option maxRecDepth 100000 in
theorem ckD_20 : mT20.all (ckD cX2_shortest) = true := by decide +kernel
set_option maxRecDepth 100000 in
theorem ckD_21 : mT21.all (ckD cX2_leastCost) = true := by decide +kernel
set_option maxRecDepth 100000 in
theorem ckD_22 : mT22.all (ckD cX2_meet) = true := by decide +kernel
set_option maxRecDepth 100000 in
theorem ckD_23 : mT23.all (ckD cX2_spread) = true := by decide +kernel
set_option maxRecDepth 100000 in
theorem ckD_24 : mT24.all (ckD cX2_cheaper) = true := by decide +kernel
set_option maxRecDepth 100000 in
theorem ckD_25 : mT25.all (ckD cX3_init) = true := by decide +kernel
set_option maxRecDepth 100000 in
theorem ckD_26 : mT26.all (ckD cX3_readText) = true := by decide +kernel
set_option maxRecDepth 100000 in
theorem ckD_27 : mT27.all (ckD cX3_fail) = true := by decide +kernel
set_option maxRecDepth 100000 in
theorem ckD_28 : mT28.all (ckD cX3_findTokens) = true := by decide +kernel
set_option maxRecDepth 100000 in
theorem ckD_29 : mT29.all (ckD cX3_tokenAt) = true := by decide +kernel
set_option maxRecDepth 100000 in
theorem ckD_30 : mT30.all (ckD cX3_signAt) = true := by decide +kernel
set_option maxRecDepth 100000 in
theorem ckD_31 : mT31.all (ckD cX3_goOn) = true := by decide +kernel
set_option maxRecDepth 100000 in
theorem ckD_32 : mT32.all (ckD cX3_among) = true := by decide +kernel
set_option maxRecDepth 100000 in
theorem ckD_33 : mT33.all (ckD cX3_line) = true := by decide +kernel
set_option maxRecDepth 100000 in
theorem ckD_34 : mT34.all (ckD cX3_weighed) = true := by decide +kernel
set_option maxRecDepth 100000 in
theorem ckD_35 : mT35.all (ckD cX3_numbered) = true := by decide +kernel
set_option maxRecDepth 100000 in
theorem ckD_36 : mT36.all (ckD cX3_cond) = true := by decide +kernel
set_option maxRecDepth 100000 in
theorem ckD_37 : mT37.all (ckD cX3_all) = true := by decide +kernel
set_option maxRecDepth 100000 in
theorem ckD_38 : mT38.all (ckD cX3_one) = true := by decide +kernel
set_option maxRecDepth 100000 in
theorem ckD_39 : mT39.all (ckD cX3_comparison) = true := by decide +kernel
set_option maxRecDepth 100000 in
theorem ckD_40 : mT40.all (ckD cX3_emit) = true := by decide +kernel
set_option maxRecDepth 100000 in
theorem ckD_41 : mT41.all (ckD cX4_init) = true := by decide +kernel
set_option maxRecDepth 100000 in
theorem ckD_42 : mT42.all (ckD cX4_setWay) = true := by decide +kernel
set_option maxRecDepth 100000 in
theorem ckD_43 : mT43.all (ckD cX4_tellings) = true := by decide +kernel
set_option maxRecDepth 100000 in
theorem ckD_44 : mT44.all (ckD cX4_tell) = true := by decide +kernel
set_option maxRecDepth 100000 in
theorem ckD_45 : mT45.all (ckD cX4_mayEnd) = true := by decide +kernel
set_option maxRecDepth 100000 in
theorem ckD_46 : mT46.all (ckD cX4_take) = true := by decide +kernel
set_option maxRecDepth 100000 in
theorem ckD_47 : mT47.all (ckD cX4_note) = true := by decide +kernel
set_option maxRecDepth 100000 in
theorem ckD_48 : mT48.all (ckD cX5_init) = true := by decide +kernel
set_option maxRecDepth 100000 in
theorem ckD_49 : mT49.all (ckD cX5_put) = true := by decide +kernel
set_option maxRecDepth 100000 in
theorem ckD_50 : mT50.all (ckD cX6_init) = true := by decide +kernel
set_option maxRecDepth 100000 in
theorem ckD_51 : mT51.all (ckD cX6_clear) = true := by decide +kernel
set_option maxRecDepth 100000 in
theorem ckD_52 : mT52.all (ckD cX6_firstLineWeighed) = true := by decide +kernel
set_option maxRecDepth 100000 in
theorem ckD_53 : mT53.all (ckD cX7_init) = true := by decide +kernel
set_option maxRecDepth 100000 in
theorem ckD_54 : mT54.all (ckD cX7_enter) = true := by decide +kernel
set_option maxRecDepth 100000 in
theorem ckD_55 : mT55.all (ckD cX7_forget) = true := by decide +kernel
set_option maxRecDepth 100000 in
theorem ckD_56 : mT56.all (ckD cX7_worn) = true := by decide +kernel
set_option maxRecDepth 100000 in
theorem ckD_57 : mT57.all (ckD cX7_wornCells) = true := by decide +kernel
set_option maxRecDepth 100000 in
theorem ckD_58 : mT58.all (ckD cX7_go) = true := by decide +kernel
set_option maxRecDepth 100000 in
theorem ckD_59 : mT59.all (ckD cX7_begin) = true := by decide +kernel
set_option maxRecDepth 100000 in
theorem ckD_60 : mT60.all (ckD cX7_leaveIfDone) = true := by decide +kernel
set_option maxRecDepth 100000 in
theorem ckD_61 : mT61.all (ckD cX7_sweep) = true := by decide +kernel
set_option maxRecDepth 100000 in
theorem ckD_62 : mT62.all (ckD cX7_tread) = true := by decide +kernel
set_option maxRecDepth 100000 in
theorem ckD_63 : mT63.all (ckD cX7_endWeek) = true := by decide +kernel
set_option maxRecDepth 100000 in
theorem ckD_64 : mT64.all (ckD cX7_firstNumber) = true := by decide +kernel
set_option maxRecDepth 100000 in
theorem ckD_65 : mT65.all (ckD cX7_arrives) = true := by decide +kernel
set_option maxRecDepth 100000 in
theorem ckD_66 : mT66.all (ckD cX7_choose) = true := by decide +kernel
set_option maxRecDepth 100000 in
theorem ckD_67 : mT67.all (ckD cX7_look) = true := by decide +kernel
set_option maxRecDepth 100000 in
theorem ckD_68 : mT68.all (ckD cX7_weigh) = true := by decide +kernel
set_option maxRecDepth 100000 in
theorem ckD_69 : mT69.all (ckD cX7_wornAhead) = true := by decide +kernel
set_option maxRecDepth 100000 in
theorem ckD_70 : mT70.all (ckD cX7_holds) = true := by decide +kernel
set_option maxRecDepth 100000 in
theorem ckD_71 : mT71.all (ckD cX7_asked) = true := by decide +kernel
set_option maxRecDepth 100000 in
theorem ckD_72 : mT72.all (ckD cX8_init) = true := by decide +kernel
set_option maxRecDepth 100000 in
theorem ckD_73 : mT73.all (ckD cX8_begin) = true := by decide +kernel
set_option maxRecDepth 100000 in
theorem ckD_74 : mT74.all (ckD cX8_step) = true := by decide +kernel
set_option maxRecDepth 100000 in
theorem ckD_75 : mT75.all (ckD cX8_copy) = true := by decide +kernel
set_option maxRecDepth 100000 in
theorem ckD_76 : mT76.all (ckD cX9_init) = true := by decide +kernel
set_option maxRecDepth 100000 in
theorem ckD_77 : mT77.all (ckD cX9_copy) = true := by decide +kernel
set_option maxRecDepth 100000 in
theorem ckD_78 : mT78.all (ckD cX9_due) = true := by decide +kernel
set_option maxRecDepth 100000 in
theorem ckD_79 : mT79.all (ckD cX10_init) = true := by decide +kernel
set_option maxRecDepth 100000 in
theorem ckD_80 : mT80.all (ckD cX10_feed) = true := by decide +kernel
set_option maxRecDepth 100000 in
theorem ckD_81 : mT81.all (ckD cX10_end) = true := by decide +kernel
set_option maxRecDepth 100000 in
theorem ckD_82 : mT82.all (ckD cX10_park) = true := by decide +kernel
set_option maxRecDepth 100000 in
theorem ckD_83 : mT83.all (ckD cX10_tapeTellsPark) = true := by decide +kernel
set_option maxRecDepth 100000 in
theorem ckD_84 : mT84.all (ckD cX10_door) = true := by decide +kernel
set_option maxRecDepth 100000 in
theorem ckD_85 : mT85.all (ckD cX10_law) = true := by decide +kernel
set_option maxRecDepth 100000 in
theorem ckD_86 : mT86.all (ckD cX10_habit) = true := by decide +kernel
set_option maxRecDepth 100000 in
theorem ckD_87 : mT87.all (ckD cX10_readingEnds) = true := by decide +kernel
set_option maxRecDepth 100000 in
theorem ckD_88 : mT88.all (ckD cX10_fault) = true := by decide +kernel
set_option maxRecDepth 100000 in
theorem ckD_89 : mT89.all (ckD cX10_wish) = true := by decide +kernel
set_option maxRecDepth 100000 in
theorem ckD_90 : mT90.all (ckD cX10_drop) = true := by decide +kernel
set_option maxRecDepth 100000 in
theorem ckD_91 : mT91.all (ckD cX10_run) = true := by decide +kernel
set_option maxRecDepth 100000 in
theorem ckD_92 : mT92.all (ckD cX10_week) = true := by decide +kernel
set_option maxRecDepth 100000 in
theorem ckD_93 : mT93.all (ckD cX10_rain) = true := by decide +kernel
set_option maxRecDepth 100000 in
theorem ckD_94 : mT94.all (ckD cX10_snow) = true := by decide +kernel
set_option maxRecDepth 100000 in
theorem ckD_95 : mT95.all (ckD cX10_lay) = true := by decide +kernel
set_option maxRecDepth 100000 in
theorem ckD_96 : mT96.all (ckD cX10_walker) = true := by decide +kernel
set_option maxRecDepth 100000 in
theorem ckD_97 : mT97.all (ckD cX10_net) = true := by decide +kernel
set_option maxRecDepth 100000 in
theorem ckD_98 : mT98.all (ckD cX10_pieces) = true := by decide +kernel
set_option maxRecDepth 100000 in
theorem ckD_99 : mT99.all (ckD cX10_rests) = true := by decide +kernel
set_option maxRecDepth 100000 in
theorem ckD_100 : mT100.all (ckD cX10_least) = true := by decide +kernel
set_option maxRecDepth 100000 in
theorem ckD_101 : mT101.all (ckD cX10_leastOfTape) = true := by decide +kernel
set_option maxRecDepth 100000 in
theorem ckD_102 : mT102.all (ckD cX10_longer) = true := by decide +kernel
set_option maxRecDepth 100000 in
theorem ckD_103 : mT103.all (ckD cX10_turns) = true := by decide +kernel
set_option maxRecDepth 100000 in
theorem ckD_104 : mT104.all (ckD cX10_paved) = true := by decide +kernel
set_option maxRecDepth 100000 in
theorem ckD_105 : mT105.all (ckD cX10_wait) = true := by decide +kernel
set_option maxRecDepth 100000 in
theorem ckD_106 : mT106.all (ckD cX10_pavingTold) = true := by decide +kernel
set_option maxRecDepth 100000 in
theorem ckD_107 : mT107.all (ckD cX10_keepWeeks) = true := by decide +kernel
set_option maxRecDepth 100000 in
theorem ckD_108 : mT108.all (ckD cX10_fences) = true := by decide +kernel
set_option maxRecDepth 100000 in
theorem ckD_109 : mT109.all (ckD cX10_fencesTold) = true := by decide +kernel
set_option maxRecDepth 100000 in
theorem ckD_110 : mT110.all (ckD cX10_fewestFences) = true := by decide +kernel
set_option maxRecDepth 100000 in
theorem ckD_111 : mT111.all (ckD cX10_nobodySteps) = true := by decide +kernel
set_option maxRecDepth 100000 in
theorem ckD_112 : mT112.all (ckD cX10_setFences) = true := by decide +kernel
set_option maxRecDepth 100000 in
theorem ckD_113 : mT113.all (ckD cX10_fenceAt) = true := by decide +kernel
set_option maxRecDepth 100000 in
theorem ckD_114 : mT114.all (ckD cX10_lasts) = true := by decide +kernel
set_option maxRecDepth 100000 in
theorem ckD_115 : mT115.all (ckD cX10_way) = true := by decide +kernel
set_option maxRecDepth 100000 in
theorem ckD_116 : mT116.all (ckD cX10_wayAt) = true := by decide +kernel
set_option maxRecDepth 100000 in
theorem ckD_117 : mT117.all (ckD cX10_read) = true := by decide +kernel
set_option maxRecDepth 100000 in
theorem ckD_118 : mT118.all (ckD cX10_tellWays) = true := by decide +kernel
set_option maxRecDepth 100000 in
theorem ckD_119 : mT119.all (ckD cX10_reads) = true := by decide +kernel
set_option maxRecDepth 100000 in
theorem ckD_120 : mT120.all (ckD cX10_fits) = true := by decide +kernel
set_option maxRecDepth 100000 in
theorem ckD_121 : mT121.all (ckD cX10_fitting) = true := by decide +kernel
set_option maxRecDepth 100000 in
theorem ckD_122 : mT122.all (ckD cX10_tapeTellsTrail) = true := by decide +kernel
set_option maxRecDepth 100000 in
theorem ckD_123 : mT123.all (ckD cX10_image) = true := by decide +kernel
set_option maxRecDepth 100000 in
theorem ckD_124 : mT124.all (ckD cX10_restore) = true := by decide +kernel
set_option maxRecDepth 100000 in
theorem ckD_125 : mT125.all (ckD cX10_count) = true := by decide +kernel
set_option maxRecDepth 100000 in
theorem ckD_126 : mT126.all (ckD cX10_within) = true := by decide +kernel
set_option maxRecDepth 100000 in
theorem ckD_127 : mT127.all (ckD cX10_isCell) = true := by decide +kernel
set_option maxRecDepth 100000 in
theorem ckD_128 : mT128.all (ckD cX10_isDoor) = true := by decide +kernel
set_option maxRecDepth 100000 in
theorem ckD_129 : mT129.all (ckD cX10_twoDoors) = true := by decide +kernel
set_option maxRecDepth 100000 in
theorem ckD_130 : mT130.all (ckD cX10_isWish) = true := by decide +kernel
set_option maxRecDepth 100000 in
theorem ckD_131 : mT131.all (ckD cX10_isWorn) = true := by decide +kernel
set_option maxRecDepth 100000 in
theorem ckD_132 : mT132.all (ckD cX10_wayTold) = true := by decide +kernel
set_option maxRecDepth 100000 in
theorem ckD_133 : mT133.all (ckD cX10_openCase) = true := by decide +kernel
set_option maxRecDepth 100000 in
theorem ckD_134 : mT134.all (ckD cX10_oneWeek) = true := by decide +kernel
set_option maxRecDepth 100000 in
theorem ckD_135 : mT135.all (ckD cX11_throwsIf) = true := by decide +kernel
set_option maxRecDepth 100000 in
theorem ckD_136 : mT136.all (ckD cX11_feed) = true := by decide +kernel
set_option maxRecDepth 100000 in
theorem ckD_137 : mT137.all (ckD cX11_four) = true := by decide +kernel
set_option maxRecDepth 100000 in
theorem ckD_138 : mT138.all (ckD cX11_end) = true := by decide +kernel
set_option maxRecDepth 100000 in
theorem ckD_139 : mT139.all (ckD cX11_taken) = true := by decide +kernel
set_option maxRecDepth 100000 in
theorem ckD_140 : mT140.all (ckD cX11_isIn) = true := by decide +kernel
set_option maxRecDepth 100000 in
theorem ckD_141 : mT141.all (ckD cX11_plain) = true := by decide +kernel
set_option maxRecDepth 100000 in
theorem ckD_142 : mT142.all (ckD cX11_octet) = true := by decide +kernel
set_option maxRecDepth 100000 in
theorem ckD_143 : mT143.all (ckD cX11_init) = true := by decide +kernel
set_option maxRecDepth 100000 in
theorem ckD_144 : mT144.all (ckD cX11_cells) = true := by decide +kernel
set_option maxRecDepth 100000 in
theorem ckD_145 : mT145.all (ckD cX11_isCell) = true := by decide +kernel
set_option maxRecDepth 100000 in
theorem ckD_146 : mT146.all (ckD cX11_of) = true := by decide +kernel
set_option maxRecDepth 100000 in
theorem ckD_147 : mT147.all (ckD cX11_set) = true := by decide +kernel
set_option maxRecDepth 100000 in
theorem ckD_148 : mT148.all (ckD cX11_bears) = true := by decide +kernel
set_option maxRecDepth 100000 in
theorem ckD_149 : mT149.all (ckD cX11_isGreen) = true := by decide +kernel
set_option maxRecDepth 100000 in
theorem ckD_150 : mT150.all (ckD cX11_isWorn) = true := by decide +kernel
set_option maxRecDepth 100000 in
theorem ckD_151 : mT151.all (ckD cX11_isMuddy) = true := by decide +kernel
set_option maxRecDepth 100000 in
theorem ckD_152 : mT152.all (ckD cX11_isDoor) = true := by decide +kernel
set_option maxRecDepth 100000 in
theorem ckD_153 : mT153.all (ckD cX11_layAside) = true := by decide +kernel
set_option maxRecDepth 100000 in
theorem ckD_154 : mT154.all (ckD cX11_layBack) = true := by decide +kernel
set_option maxRecDepth 100000 in
theorem ckD_155 : mT155.all (ckD cX11_park) = true := by decide +kernel
set_option maxRecDepth 100000 in
theorem ckD_156 : mT156.all (ckD cX11_door) = true := by decide +kernel
set_option maxRecDepth 100000 in
theorem ckD_157 : mT157.all (ckD cX11_isDoorAt) = true := by decide +kernel
set_option maxRecDepth 100000 in
theorem ckD_158 : mT158.all (ckD cX11_isWalkerAt) = true := by decide +kernel
set_option maxRecDepth 100000 in
theorem ckD_159 : mT159.all (ckD cX11_peek) = true := by decide +kernel
set_option maxRecDepth 100000 in
theorem ckD_160 : mT160.all (ckD cX11_isSmall) = true := by decide +kernel
set_option maxRecDepth 100000 in
theorem ckD_161 : mT161.all (ckD cX11_isDigit) = true := by decide +kernel
set_option maxRecDepth 100000 in
theorem ckD_162 : mT162.all (ckD cX11_next) = true := by decide +kernel
set_option maxRecDepth 100000 in
theorem ckD_163 : mT163.all (ckD cX11_bad) = true := by decide +kernel
set_option maxRecDepth 100000 in
theorem ckD_164 : mT164.all (ckD cX11_isWord) = true := by decide +kernel
set_option maxRecDepth 100000 in
theorem ckD_165 : mT165.all (ckD cX11_isSign) = true := by decide +kernel
set_option maxRecDepth 100000 in
theorem ckD_166 : mT166.all (ckD cX11_sign) = true := by decide +kernel
set_option maxRecDepth 100000 in
theorem ckD_167 : mT167.all (ckD cX11_takes) = true := by decide +kernel
set_option maxRecDepth 100000 in
theorem ckD_168 : mT168.all (ckD cX11_lineOf) = true := by decide +kernel
set_option maxRecDepth 100000 in
theorem ckD_169 : mT169.all (ckD cX11_read) = true := by decide +kernel
set_option maxRecDepth 100000 in
theorem ckD_170 : mT170.all (ckD cX11_line) = true := by decide +kernel
set_option maxRecDepth 100000 in
theorem ckD_171 : mT171.all (ckD cX11_measure) = true := by decide +kernel
set_option maxRecDepth 100000 in
theorem ckD_172 : mT172.all (ckD cX11_find) = true := by decide +kernel
set_option maxRecDepth 100000 in
theorem ckD_173 : mT173.all (ckD cX11_atom) = true := by decide +kernel
set_option maxRecDepth 100000 in
theorem ckD_174 : mT174.all (ckD cX11_write) = true := by decide +kernel
set_option maxRecDepth 100000 in
theorem ckD_175 : mT175.all (ckD cX11_writeDown) = true := by decide +kernel
set_option maxRecDepth 100000 in
theorem ckD_176 : mT176.all (ckD cX11_binds) = true := by decide +kernel
set_option maxRecDepth 100000 in
theorem ckD_177 : mT177.all (ckD cX11_open) = true := by decide +kernel
set_option maxRecDepth 100000 in
theorem ckD_178 : mT178.all (ckD cX11_isOpen) = true := by decide +kernel
set_option maxRecDepth 100000 in
theorem ckD_179 : mT179.all (ckD cX11_cond) = true := by decide +kernel
set_option maxRecDepth 100000 in
theorem ckD_180 : mT180.all (ckD cX11_one) = true := by decide +kernel
set_option maxRecDepth 100000 in
theorem ckD_181 : mT181.all (ckD cX11_text) = true := by decide +kernel
set_option maxRecDepth 100000 in
theorem ckD_182 : mT182.all (ckD cX11_told) = true := by decide +kernel
set_option maxRecDepth 100000 in
theorem ckD_183 : mT183.all (ckD cX11_law) = true := by decide +kernel
set_option maxRecDepth 100000 in
theorem ckD_184 : mT184.all (ckD cX11_habit) = true := by decide +kernel
set_option maxRecDepth 100000 in
theorem ckD_185 : mT185.all (ckD cX11_fault) = true := by decide +kernel
set_option maxRecDepth 100000 in
theorem ckD_186 : mT186.all (ckD cX11_is) = true := by decide +kernel
set_option maxRecDepth 100000 in
theorem ckD_187 : mT187.all (ckD cX11_holds) = true := by decide +kernel
set_option maxRecDepth 100000 in
theorem ckD_188 : mT188.all (ckD cX11_first) = true := by decide +kernel
set_option maxRecDepth 100000 in
theorem ckD_189 : mT189.all (ckD cX11_isWish) = true := by decide +kernel
set_option maxRecDepth 100000 in
theorem ckD_190 : mT190.all (ckD cX11_wish) = true := by decide +kernel
set_option maxRecDepth 100000 in
theorem ckD_191 : mT191.all (ckD cX11_drop) = true := by decide +kernel
set_option maxRecDepth 100000 in
theorem ckD_192 : mT192.all (ckD cX11_east) = true := by decide +kernel
set_option maxRecDepth 100000 in
theorem ckD_193 : mT193.all (ckD cX11_south) = true := by decide +kernel
set_option maxRecDepth 100000 in
theorem ckD_194 : mT194.all (ckD cX11_beside) = true := by decide +kernel
set_option maxRecDepth 100000 in
theorem ckD_195 : mT195.all (ckD cX11_across) = true := by decide +kernel
set_option maxRecDepth 100000 in
theorem ckD_196 : mT196.all (ckD cX11_along) = true := by decide +kernel
set_option maxRecDepth 100000 in
theorem ckD_197 : mT197.all (ckD cX11_measured) = true := by decide +kernel
set_option maxRecDepth 100000 in
theorem ckD_198 : mT198.all (ckD cX11_crowd) = true := by decide +kernel
set_option maxRecDepth 100000 in
theorem ckD_199 : mT199.all (ckD cX11_sees) = true := by decide +kernel
set_option maxRecDepth 100000 in
theorem ckD_200 : mT200.all (ckD cX11_weight) = true := by decide +kernel
set_option maxRecDepth 100000 in
theorem ckD_201 : mT201.all (ckD cX11_mayNot) = true := by decide +kernel
set_option maxRecDepth 100000 in
theorem ckD_202 : mT202.all (ckD cX11_choose) = true := by decide +kernel
set_option maxRecDepth 100000 in
theorem ckD_203 : mT203.all (ckD cX11_tread) = true := by decide +kernel
set_option maxRecDepth 100000 in
theorem ckD_204 : mT204.all (ckD cX11_tick) = true := by decide +kernel
set_option maxRecDepth 100000 in
theorem ckD_205 : mT205.all (ckD cX11_leave) = true := by decide +kernel
set_option maxRecDepth 100000 in
theorem ckD_206 : mT206.all (ckD cX11_goes) = true := by decide +kernel
set_option maxRecDepth 100000 in
theorem ckD_207 : mT207.all (ckD cX11_run) = true := by decide +kernel
set_option maxRecDepth 100000 in
theorem ckD_208 : mT208.all (ckD cX11_endWeek) = true := by decide +kernel
set_option maxRecDepth 100000 in
theorem ckD_209 : mT209.all (ckD cX11_week) = true := by decide +kernel
set_option maxRecDepth 100000 in
theorem ckD_210 : mT210.all (ckD cX11_rain) = true := by decide +kernel
set_option maxRecDepth 100000 in
theorem ckD_211 : mT211.all (ckD cX11_snow) = true := by decide +kernel
set_option maxRecDepth 100000 in
theorem ckD_212 : mT212.all (ckD cX11_lay) = true := by decide +kernel
set_option maxRecDepth 100000 in
theorem ckD_213 : mT213.all (ckD cX11_put) = true := by decide +kernel
set_option maxRecDepth 100000 in
theorem ckD_214 : mT214.all (ckD cX11_cell) = true := by decide +kernel
set_option maxRecDepth 100000 in
theorem ckD_215 : mT215.all (ckD cX11_walker) = true := by decide +kernel
set_option maxRecDepth 100000 in
theorem ckD_216 : mT216.all (ckD cX11_wornMany) = true := by decide +kernel
set_option maxRecDepth 100000 in
theorem ckD_217 : mT217.all (ckD cX11_net) = true := by decide +kernel
set_option maxRecDepth 100000 in
theorem ckD_218 : mT218.all (ckD cX11_pieces) = true := by decide +kernel
set_option maxRecDepth 100000 in
theorem ckD_219 : mT219.all (ckD cX11_spread) = true := by decide +kernel
set_option maxRecDepth 100000 in
theorem ckD_220 : mT220.all (ckD cX11_note) = true := by decide +kernel
set_option maxRecDepth 100000 in
theorem ckD_221 : mT221.all (ckD cX11_isNoted) = true := by decide +kernel
set_option maxRecDepth 100000 in
theorem ckD_222 : mT222.all (ckD cX11_go) = true := by decide +kernel
set_option maxRecDepth 100000 in
theorem ckD_223 : mT223.all (ckD cX11_rests) = true := by decide +kernel
set_option maxRecDepth 100000 in
theorem ckD_224 : mT224.all (ckD cX11_price) = true := by decide +kernel
set_option maxRecDepth 100000 in
theorem ckD_225 : mT225.all (ckD cX11_least) = true := by decide +kernel
set_option maxRecDepth 100000 in
theorem ckD_226 : mT226.all (ckD cX11_widen) = true := by decide +kernel
set_option maxRecDepth 100000 in
theorem ckD_227 : mT227.all (ckD cX11_shortest) = true := by decide +kernel
set_option maxRecDepth 100000 in
theorem ckD_228 : mT228.all (ckD cX11_longer) = true := by decide +kernel
set_option maxRecDepth 100000 in
theorem ckD_229 : mT229.all (ckD cX11_turns) = true := by decide +kernel
set_option maxRecDepth 100000 in
theorem ckD_230 : mT230.all (ckD cX11_pave) = true := by decide +kernel
set_option maxRecDepth 100000 in
theorem ckD_231 : mT231.all (ckD cX11_paved) = true := by decide +kernel
set_option maxRecDepth 100000 in
theorem ckD_232 : mT232.all (ckD cX11_wait) = true := by decide +kernel
set_option maxRecDepth 100000 in
theorem ckD_233 : mT233.all (ckD cX11_isTrod) = true := by decide +kernel
set_option maxRecDepth 100000 in
theorem ckD_234 : mT234.all (ckD cX11_keep) = true := by decide +kernel
set_option maxRecDepth 100000 in
theorem ckD_235 : mT235.all (ckD cX11_fences) = true := by decide +kernel
set_option maxRecDepth 100000 in
theorem ckD_236 : mT236.all (ckD cX11_fenceAt) = true := by decide +kernel
set_option maxRecDepth 100000 in
theorem ckD_237 : mT237.all (ckD cX11_lasts) = true := by decide +kernel
set_option maxRecDepth 100000 in
theorem ckD_238 : mT238.all (ckD cX11_walk) = true := by decide +kernel
set_option maxRecDepth 100000 in
theorem ckD_239 : mT239.all (ckD cX11_isWay) = true := by decide +kernel
set_option maxRecDepth 100000 in
theorem ckD_240 : mT240.all (ckD cX11_way) = true := by decide +kernel
set_option maxRecDepth 100000 in
theorem ckD_241 : mT241.all (ckD cX11_wayAt) = true := by decide +kernel
set_option maxRecDepth 100000 in
theorem ckD_242 : mT242.all (ckD cX11_read_) = true := by decide +kernel
set_option maxRecDepth 100000 in
theorem ckD_243 : mT243.all (ckD cX11_isSnow) = true := by decide +kernel
set_option maxRecDepth 100000 in
theorem ckD_244 : mT244.all (ckD cX11_reads) = true := by decide +kernel
set_option maxRecDepth 100000 in
theorem ckD_245 : mT245.all (ckD cX11_fits) = true := by decide +kernel
set_option maxRecDepth 100000 in
theorem ckD_246 : mT246.all (ckD cX11_image) = true := by decide +kernel
set_option maxRecDepth 100000 in
theorem ckD_247 : mT247.all (ckD cX11_restore) = true := by decide +kernel
set_option maxRecDepth 100000 in
theorem ckD_248 : mT248.all (ckD cX11_count) = true := by decide +kernel
set_option maxRecDepth 100000 in
theorem ckD_249 : mT249.all (ckD cJ13_bitCount_95d88) = true := by decide +kernel
set_option maxRecDepth 100000 in
theorem ckD_250_0 : mT250_0.all (ckD cL_law) = true := by decide +kernel
set_option maxRecDepth 100000 in
theorem ckD_250_1 : mT250_1.all (ckD cL_law) = true := by decide +kernel
set_option maxRecDepth 100000 in
theorem ckD_250_2 : mT250_2.all (ckD cL_law) = true := by decide +kernel
set_option maxRecDepth 100000 in
theorem ckD_250_3 : mT250_3.all (ckD cL_law) = true := by decide +kernel
set_option maxRecDepth 100000 in
theorem ckD_250_4 : mT250_4.all (ckD cL_law) = true := by decide +kernel
set_option maxRecDepth 100000 in
theorem ckD_250_5 : mT250_5.all (ckD cL_law) = true := by decide +kernel
set_option maxRecDepth 100000 in
theorem ckD_250_6 : mT250_6.all (ckD cL_law) = true := by decide +kernel
set_option maxRecDepth 100000 in
theorem ckD_250_7 : mT250_7.all (ckD cL_law) = true := by decide +kernel
set_option maxRecDepth 100000 in
theorem ckD_250_8 : mT250_8.all (ckD cL_law) = true := by decide +kernel
set_option maxRecDepth 100000 in
theorem ckD_250_9 : mT250_9.all (ckD cL_law) = true := by decide +kernel
set_option maxRecDepth 100000 in
theorem ckD_250_10 : mT250_10.all (ckD cL_law) = true := by decide +kernel
set_option maxRecDepth 100000 in
theorem ckD_250_11 : mT250_11.all (ckD cL_law) = true := by decide +kernel
set_option maxRecDepth 100000 in
theorem ckD_250_12 : mT250_12.all (ckD cL_law) = true := by decide +kernel
set_option maxRecDepth 100000 in
theorem ckD_250_13 : mT250_13.all (ckD cL_law) = true := by decide +kernel
set_option maxRecDepth 100000 in
theorem ckD_250_14 : mT250_14.all (ckD cL_law) = true := by decide +kernel
set_option maxRecDepth 100000 in
theorem ckD_250_15 : mT250_15.all (ckD cL_law) = true := by decide +kernel
set_option maxRecDepth 100000 in
theorem ckD_250_16 : mT250_16.all (ckD cL_law) = true := by decide +kernel
theorem ckD_250 : mT250.all (ckD cL_law) = true := by
  show (mT250_0 ++ (mT250_1 ++ (mT250_2 ++ (mT250_3 ++ (mT250_4 ++ (mT250_5 ++ (mT250_6 ++ (mT250_7 ++ (mT250_8 ++ (mT250_9 ++ (mT250_10 ++ (mT250_11 ++ (mT250_12 ++ (mT250_13 ++ (mT250_14 ++ (mT250_15 ++ (mT250_16))))))))))))))))).all _ = true
  simp only [List.all_append, ckD_250_0, ckD_250_1, ckD_250_2, ckD_250_3, ckD_250_4, ckD_250_5, ckD_250_6, ckD_250_7, ckD_250_8, ckD_250_9, ckD_250_10, ckD_250_11, ckD_250_12, ckD_250_13, ckD_250_14, ckD_250_15, ckD_250_16, Bool.and_self]
set_option maxRecDepth 100000 in
theorem ckD_251 : mT251.all (ckD cX11_thrown) = true := by decide +kernel
theorem ckDr_0 : ∀ r ∈ mR_0, r.2.2.2.2.2.2.2.all (ckD r.2.2.1) = true := by
  refine List.forall_mem_cons.mpr ⟨ckD_0, ?_⟩
  refine List.forall_mem_cons.mpr ⟨ckD_1, ?_⟩
  refine List.forall_mem_cons.mpr ⟨ckD_2, ?_⟩
  refine List.forall_mem_cons.mpr ⟨ckD_3, ?_⟩
  refine List.forall_mem_cons.mpr ⟨ckD_4, ?_⟩
  refine List.forall_mem_cons.mpr ⟨ckD_5, ?_⟩
  refine List.forall_mem_cons.mpr ⟨ckD_6, ?_⟩
  refine List.forall_mem_cons.mpr ⟨ckD_7, ?_⟩
  refine List.forall_mem_cons.mpr ⟨ckD_8, ?_⟩
  refine List.forall_mem_cons.mpr ⟨ckD_9, ?_⟩
  refine List.forall_mem_cons.mpr ⟨ckD_10, ?_⟩
  refine List.forall_mem_cons.mpr ⟨ckD_11, ?_⟩
  refine List.forall_mem_cons.mpr ⟨ckD_12, ?_⟩
  refine List.forall_mem_cons.mpr ⟨ckD_13, ?_⟩
  refine List.forall_mem_cons.mpr ⟨ckD_14, ?_⟩
  refine List.forall_mem_cons.mpr ⟨ckD_15, ?_⟩
  refine List.forall_mem_cons.mpr ⟨ckD_16, ?_⟩
  refine List.forall_mem_cons.mpr ⟨ckD_17, ?_⟩
  refine List.forall_mem_cons.mpr ⟨ckD_18, ?_⟩
  refine List.forall_mem_cons.mpr ⟨ckD_19, ?_⟩
  refine List.forall_mem_cons.mpr ⟨ckD_20, ?_⟩
  refine List.forall_mem_cons.mpr ⟨ckD_21, ?_⟩
  refine List.forall_mem_cons.mpr ⟨ckD_22, ?_⟩
  refine List.forall_mem_cons.mpr ⟨ckD_23, ?_⟩
  refine List.forall_mem_cons.mpr ⟨ckD_24, ?_⟩
  refine List.forall_mem_cons.mpr ⟨ckD_25, ?_⟩
  refine List.forall_mem_cons.mpr ⟨ckD_26, ?_⟩
  refine List.forall_mem_cons.mpr ⟨ckD_27, ?_⟩
  refine List.forall_mem_cons.mpr ⟨ckD_28, ?_⟩
  refine List.forall_mem_cons.mpr ⟨ckD_29, ?_⟩
  refine List.forall_mem_cons.mpr ⟨ckD_30, ?_⟩
  refine List.forall_mem_cons.mpr ⟨ckD_31, ?_⟩
  refine List.forall_mem_cons.mpr ⟨ckD_32, ?_⟩
  refine List.forall_mem_cons.mpr ⟨ckD_33, ?_⟩
  refine List.forall_mem_cons.mpr ⟨ckD_34, ?_⟩
  refine List.forall_mem_cons.mpr ⟨ckD_35, ?_⟩
  refine List.forall_mem_cons.mpr ⟨ckD_36, ?_⟩
  refine List.forall_mem_cons.mpr ⟨ckD_37, ?_⟩
  refine List.forall_mem_cons.mpr ⟨ckD_38, ?_⟩
  refine List.forall_mem_cons.mpr ⟨ckD_39, ?_⟩
  exact fun _ h => absurd h List.not_mem_nil
theorem ckDr_1 : ∀ r ∈ mR_1, r.2.2.2.2.2.2.2.all (ckD r.2.2.1) = true := by
  refine List.forall_mem_cons.mpr ⟨ckD_40, ?_⟩
  refine List.forall_mem_cons.mpr ⟨ckD_41, ?_⟩
  refine List.forall_mem_cons.mpr ⟨ckD_42, ?_⟩
  refine List.forall_mem_cons.mpr ⟨ckD_43, ?_⟩
  refine List.forall_mem_cons.mpr ⟨ckD_44, ?_⟩
  refine List.forall_mem_cons.mpr ⟨ckD_45, ?_⟩
  refine List.forall_mem_cons.mpr ⟨ckD_46, ?_⟩
  refine List.forall_mem_cons.mpr ⟨ckD_47, ?_⟩
  refine List.forall_mem_cons.mpr ⟨ckD_48, ?_⟩
  refine List.forall_mem_cons.mpr ⟨ckD_49, ?_⟩
  refine List.forall_mem_cons.mpr ⟨ckD_50, ?_⟩
  refine List.forall_mem_cons.mpr ⟨ckD_51, ?_⟩
  refine List.forall_mem_cons.mpr ⟨ckD_52, ?_⟩
  refine List.forall_mem_cons.mpr ⟨ckD_53, ?_⟩
  refine List.forall_mem_cons.mpr ⟨ckD_54, ?_⟩
  refine List.forall_mem_cons.mpr ⟨ckD_55, ?_⟩
  refine List.forall_mem_cons.mpr ⟨ckD_56, ?_⟩
  refine List.forall_mem_cons.mpr ⟨ckD_57, ?_⟩
  refine List.forall_mem_cons.mpr ⟨ckD_58, ?_⟩
  refine List.forall_mem_cons.mpr ⟨ckD_59, ?_⟩
  refine List.forall_mem_cons.mpr ⟨ckD_60, ?_⟩
  refine List.forall_mem_cons.mpr ⟨ckD_61, ?_⟩
  refine List.forall_mem_cons.mpr ⟨ckD_62, ?_⟩
  refine List.forall_mem_cons.mpr ⟨ckD_63, ?_⟩
  refine List.forall_mem_cons.mpr ⟨ckD_64, ?_⟩
  refine List.forall_mem_cons.mpr ⟨ckD_65, ?_⟩
  refine List.forall_mem_cons.mpr ⟨ckD_66, ?_⟩
  refine List.forall_mem_cons.mpr ⟨ckD_67, ?_⟩
  refine List.forall_mem_cons.mpr ⟨ckD_68, ?_⟩
  refine List.forall_mem_cons.mpr ⟨ckD_69, ?_⟩
  refine List.forall_mem_cons.mpr ⟨ckD_70, ?_⟩
  refine List.forall_mem_cons.mpr ⟨ckD_71, ?_⟩
  refine List.forall_mem_cons.mpr ⟨ckD_72, ?_⟩
  refine List.forall_mem_cons.mpr ⟨ckD_73, ?_⟩
  refine List.forall_mem_cons.mpr ⟨ckD_74, ?_⟩
  refine List.forall_mem_cons.mpr ⟨ckD_75, ?_⟩
  refine List.forall_mem_cons.mpr ⟨ckD_76, ?_⟩
  refine List.forall_mem_cons.mpr ⟨ckD_77, ?_⟩
  refine List.forall_mem_cons.mpr ⟨ckD_78, ?_⟩
  refine List.forall_mem_cons.mpr ⟨ckD_79, ?_⟩
  exact fun _ h => absurd h List.not_mem_nil
theorem ckDr_2 : ∀ r ∈ mR_2, r.2.2.2.2.2.2.2.all (ckD r.2.2.1) = true := by
  refine List.forall_mem_cons.mpr ⟨ckD_80, ?_⟩
  refine List.forall_mem_cons.mpr ⟨ckD_81, ?_⟩
  refine List.forall_mem_cons.mpr ⟨ckD_82, ?_⟩
  refine List.forall_mem_cons.mpr ⟨ckD_83, ?_⟩
  refine List.forall_mem_cons.mpr ⟨ckD_84, ?_⟩
  refine List.forall_mem_cons.mpr ⟨ckD_85, ?_⟩
  refine List.forall_mem_cons.mpr ⟨ckD_86, ?_⟩
  refine List.forall_mem_cons.mpr ⟨ckD_87, ?_⟩
  refine List.forall_mem_cons.mpr ⟨ckD_88, ?_⟩
  refine List.forall_mem_cons.mpr ⟨ckD_89, ?_⟩
  refine List.forall_mem_cons.mpr ⟨ckD_90, ?_⟩
  refine List.forall_mem_cons.mpr ⟨ckD_91, ?_⟩
  refine List.forall_mem_cons.mpr ⟨ckD_92, ?_⟩
  refine List.forall_mem_cons.mpr ⟨ckD_93, ?_⟩
  refine List.forall_mem_cons.mpr ⟨ckD_94, ?_⟩
  refine List.forall_mem_cons.mpr ⟨ckD_95, ?_⟩
  refine List.forall_mem_cons.mpr ⟨ckD_96, ?_⟩
  refine List.forall_mem_cons.mpr ⟨ckD_97, ?_⟩
  refine List.forall_mem_cons.mpr ⟨ckD_98, ?_⟩
  refine List.forall_mem_cons.mpr ⟨ckD_99, ?_⟩
  refine List.forall_mem_cons.mpr ⟨ckD_100, ?_⟩
  refine List.forall_mem_cons.mpr ⟨ckD_101, ?_⟩
  refine List.forall_mem_cons.mpr ⟨ckD_102, ?_⟩
  refine List.forall_mem_cons.mpr ⟨ckD_103, ?_⟩
  refine List.forall_mem_cons.mpr ⟨ckD_104, ?_⟩
  refine List.forall_mem_cons.mpr ⟨ckD_105, ?_⟩
  refine List.forall_mem_cons.mpr ⟨ckD_106, ?_⟩
  refine List.forall_mem_cons.mpr ⟨ckD_107, ?_⟩
  refine List.forall_mem_cons.mpr ⟨ckD_108, ?_⟩
  refine List.forall_mem_cons.mpr ⟨ckD_109, ?_⟩
  refine List.forall_mem_cons.mpr ⟨ckD_110, ?_⟩
  refine List.forall_mem_cons.mpr ⟨ckD_111, ?_⟩
  refine List.forall_mem_cons.mpr ⟨ckD_112, ?_⟩
  refine List.forall_mem_cons.mpr ⟨ckD_113, ?_⟩
  refine List.forall_mem_cons.mpr ⟨ckD_114, ?_⟩
  refine List.forall_mem_cons.mpr ⟨ckD_115, ?_⟩
  refine List.forall_mem_cons.mpr ⟨ckD_116, ?_⟩
  refine List.forall_mem_cons.mpr ⟨ckD_117, ?_⟩
  refine List.forall_mem_cons.mpr ⟨ckD_118, ?_⟩
  refine List.forall_mem_cons.mpr ⟨ckD_119, ?_⟩
  exact fun _ h => absurd h List.not_mem_nil
theorem ckDr_3 : ∀ r ∈ mR_3, r.2.2.2.2.2.2.2.all (ckD r.2.2.1) = true := by
  refine List.forall_mem_cons.mpr ⟨ckD_120, ?_⟩
  refine List.forall_mem_cons.mpr ⟨ckD_121, ?_⟩
  refine List.forall_mem_cons.mpr ⟨ckD_122, ?_⟩
  refine List.forall_mem_cons.mpr ⟨ckD_123, ?_⟩
  refine List.forall_mem_cons.mpr ⟨ckD_124, ?_⟩
  refine List.forall_mem_cons.mpr ⟨ckD_125, ?_⟩
  refine List.forall_mem_cons.mpr ⟨ckD_126, ?_⟩
  refine List.forall_mem_cons.mpr ⟨ckD_127, ?_⟩
  refine List.forall_mem_cons.mpr ⟨ckD_128, ?_⟩
  refine List.forall_mem_cons.mpr ⟨ckD_129, ?_⟩
  refine List.forall_mem_cons.mpr ⟨ckD_130, ?_⟩
  refine List.forall_mem_cons.mpr ⟨ckD_131, ?_⟩
  refine List.forall_mem_cons.mpr ⟨ckD_132, ?_⟩
  refine List.forall_mem_cons.mpr ⟨ckD_133, ?_⟩
  refine List.forall_mem_cons.mpr ⟨ckD_134, ?_⟩
  refine List.forall_mem_cons.mpr ⟨ckD_135, ?_⟩
  refine List.forall_mem_cons.mpr ⟨ckD_136, ?_⟩
  refine List.forall_mem_cons.mpr ⟨ckD_137, ?_⟩
  refine List.forall_mem_cons.mpr ⟨ckD_138, ?_⟩
  refine List.forall_mem_cons.mpr ⟨ckD_139, ?_⟩
  refine List.forall_mem_cons.mpr ⟨ckD_140, ?_⟩
  refine List.forall_mem_cons.mpr ⟨ckD_141, ?_⟩
  refine List.forall_mem_cons.mpr ⟨ckD_142, ?_⟩
  refine List.forall_mem_cons.mpr ⟨ckD_143, ?_⟩
  refine List.forall_mem_cons.mpr ⟨ckD_144, ?_⟩
  refine List.forall_mem_cons.mpr ⟨ckD_145, ?_⟩
  refine List.forall_mem_cons.mpr ⟨ckD_146, ?_⟩
  refine List.forall_mem_cons.mpr ⟨ckD_147, ?_⟩
  refine List.forall_mem_cons.mpr ⟨ckD_148, ?_⟩
  refine List.forall_mem_cons.mpr ⟨ckD_149, ?_⟩
  refine List.forall_mem_cons.mpr ⟨ckD_150, ?_⟩
  refine List.forall_mem_cons.mpr ⟨ckD_151, ?_⟩
  refine List.forall_mem_cons.mpr ⟨ckD_152, ?_⟩
  refine List.forall_mem_cons.mpr ⟨ckD_153, ?_⟩
  refine List.forall_mem_cons.mpr ⟨ckD_154, ?_⟩
  refine List.forall_mem_cons.mpr ⟨ckD_155, ?_⟩
  refine List.forall_mem_cons.mpr ⟨ckD_156, ?_⟩
  refine List.forall_mem_cons.mpr ⟨ckD_157, ?_⟩
  refine List.forall_mem_cons.mpr ⟨ckD_158, ?_⟩
  refine List.forall_mem_cons.mpr ⟨ckD_159, ?_⟩
  exact fun _ h => absurd h List.not_mem_nil
theorem ckDr_4 : ∀ r ∈ mR_4, r.2.2.2.2.2.2.2.all (ckD r.2.2.1) = true := by
  refine List.forall_mem_cons.mpr ⟨ckD_160, ?_⟩
  refine List.forall_mem_cons.mpr ⟨ckD_161, ?_⟩
  refine List.forall_mem_cons.mpr ⟨ckD_162, ?_⟩
  refine List.forall_mem_cons.mpr ⟨ckD_163, ?_⟩
  refine List.forall_mem_cons.mpr ⟨ckD_164, ?_⟩
  refine List.forall_mem_cons.mpr ⟨ckD_165, ?_⟩
  refine List.forall_mem_cons.mpr ⟨ckD_166, ?_⟩
  refine List.forall_mem_cons.mpr ⟨ckD_167, ?_⟩
  refine List.forall_mem_cons.mpr ⟨ckD_168, ?_⟩
  refine List.forall_mem_cons.mpr ⟨ckD_169, ?_⟩
  refine List.forall_mem_cons.mpr ⟨ckD_170, ?_⟩
  refine List.forall_mem_cons.mpr ⟨ckD_171, ?_⟩
  refine List.forall_mem_cons.mpr ⟨ckD_172, ?_⟩
  refine List.forall_mem_cons.mpr ⟨ckD_173, ?_⟩
  refine List.forall_mem_cons.mpr ⟨ckD_174, ?_⟩
  refine List.forall_mem_cons.mpr ⟨ckD_175, ?_⟩
  refine List.forall_mem_cons.mpr ⟨ckD_176, ?_⟩
  refine List.forall_mem_cons.mpr ⟨ckD_177, ?_⟩
  refine List.forall_mem_cons.mpr ⟨ckD_178, ?_⟩
  refine List.forall_mem_cons.mpr ⟨ckD_179, ?_⟩
  refine List.forall_mem_cons.mpr ⟨ckD_180, ?_⟩
  refine List.forall_mem_cons.mpr ⟨ckD_181, ?_⟩
  refine List.forall_mem_cons.mpr ⟨ckD_182, ?_⟩
  refine List.forall_mem_cons.mpr ⟨ckD_183, ?_⟩
  refine List.forall_mem_cons.mpr ⟨ckD_184, ?_⟩
  refine List.forall_mem_cons.mpr ⟨ckD_185, ?_⟩
  refine List.forall_mem_cons.mpr ⟨ckD_186, ?_⟩
  refine List.forall_mem_cons.mpr ⟨ckD_187, ?_⟩
  refine List.forall_mem_cons.mpr ⟨ckD_188, ?_⟩
  refine List.forall_mem_cons.mpr ⟨ckD_189, ?_⟩
  refine List.forall_mem_cons.mpr ⟨ckD_190, ?_⟩
  refine List.forall_mem_cons.mpr ⟨ckD_191, ?_⟩
  refine List.forall_mem_cons.mpr ⟨ckD_192, ?_⟩
  refine List.forall_mem_cons.mpr ⟨ckD_193, ?_⟩
  refine List.forall_mem_cons.mpr ⟨ckD_194, ?_⟩
  refine List.forall_mem_cons.mpr ⟨ckD_195, ?_⟩
  refine List.forall_mem_cons.mpr ⟨ckD_196, ?_⟩
  refine List.forall_mem_cons.mpr ⟨ckD_197, ?_⟩
  refine List.forall_mem_cons.mpr ⟨ckD_198, ?_⟩
  refine List.forall_mem_cons.mpr ⟨ckD_199, ?_⟩
  exact fun _ h => absurd h List.not_mem_nil
theorem ckDr_5 : ∀ r ∈ mR_5, r.2.2.2.2.2.2.2.all (ckD r.2.2.1) = true := by
  refine List.forall_mem_cons.mpr ⟨ckD_200, ?_⟩
  refine List.forall_mem_cons.mpr ⟨ckD_201, ?_⟩
  refine List.forall_mem_cons.mpr ⟨ckD_202, ?_⟩
  refine List.forall_mem_cons.mpr ⟨ckD_203, ?_⟩
  refine List.forall_mem_cons.mpr ⟨ckD_204, ?_⟩
  refine List.forall_mem_cons.mpr ⟨ckD_205, ?_⟩
  refine List.forall_mem_cons.mpr ⟨ckD_206, ?_⟩
  refine List.forall_mem_cons.mpr ⟨ckD_207, ?_⟩
  refine List.forall_mem_cons.mpr ⟨ckD_208, ?_⟩
  refine List.forall_mem_cons.mpr ⟨ckD_209, ?_⟩
  refine List.forall_mem_cons.mpr ⟨ckD_210, ?_⟩
  refine List.forall_mem_cons.mpr ⟨ckD_211, ?_⟩
  refine List.forall_mem_cons.mpr ⟨ckD_212, ?_⟩
  refine List.forall_mem_cons.mpr ⟨ckD_213, ?_⟩
  refine List.forall_mem_cons.mpr ⟨ckD_214, ?_⟩
  refine List.forall_mem_cons.mpr ⟨ckD_215, ?_⟩
  refine List.forall_mem_cons.mpr ⟨ckD_216, ?_⟩
  refine List.forall_mem_cons.mpr ⟨ckD_217, ?_⟩
  refine List.forall_mem_cons.mpr ⟨ckD_218, ?_⟩
  refine List.forall_mem_cons.mpr ⟨ckD_219, ?_⟩
  refine List.forall_mem_cons.mpr ⟨ckD_220, ?_⟩
  refine List.forall_mem_cons.mpr ⟨ckD_221, ?_⟩
  refine List.forall_mem_cons.mpr ⟨ckD_222, ?_⟩
  refine List.forall_mem_cons.mpr ⟨ckD_223, ?_⟩
  refine List.forall_mem_cons.mpr ⟨ckD_224, ?_⟩
  refine List.forall_mem_cons.mpr ⟨ckD_225, ?_⟩
  refine List.forall_mem_cons.mpr ⟨ckD_226, ?_⟩
  refine List.forall_mem_cons.mpr ⟨ckD_227, ?_⟩
  refine List.forall_mem_cons.mpr ⟨ckD_228, ?_⟩
  refine List.forall_mem_cons.mpr ⟨ckD_229, ?_⟩
  refine List.forall_mem_cons.mpr ⟨ckD_230, ?_⟩
  refine List.forall_mem_cons.mpr ⟨ckD_231, ?_⟩
  refine List.forall_mem_cons.mpr ⟨ckD_232, ?_⟩
  refine List.forall_mem_cons.mpr ⟨ckD_233, ?_⟩
  refine List.forall_mem_cons.mpr ⟨ckD_234, ?_⟩
  refine List.forall_mem_cons.mpr ⟨ckD_235, ?_⟩
  refine List.forall_mem_cons.mpr ⟨ckD_236, ?_⟩
  refine List.forall_mem_cons.mpr ⟨ckD_237, ?_⟩
  refine List.forall_mem_cons.mpr ⟨ckD_238, ?_⟩
  refine List.forall_mem_cons.mpr ⟨ckD_239, ?_⟩
  exact fun _ h => absurd h List.not_mem_nil
theorem ckDr_6 : ∀ r ∈ mR_6, r.2.2.2.2.2.2.2.all (ckD r.2.2.1) = true := by
  refine List.forall_mem_cons.mpr ⟨ckD_240, ?_⟩
  refine List.forall_mem_cons.mpr ⟨ckD_241, ?_⟩
  refine List.forall_mem_cons.mpr ⟨ckD_242, ?_⟩
  refine List.forall_mem_cons.mpr ⟨ckD_243, ?_⟩
  refine List.forall_mem_cons.mpr ⟨ckD_244, ?_⟩
  refine List.forall_mem_cons.mpr ⟨ckD_245, ?_⟩
  refine List.forall_mem_cons.mpr ⟨ckD_246, ?_⟩
  refine List.forall_mem_cons.mpr ⟨ckD_247, ?_⟩
  refine List.forall_mem_cons.mpr ⟨ckD_248, ?_⟩
  refine List.forall_mem_cons.mpr ⟨ckD_249, ?_⟩
  refine List.forall_mem_cons.mpr ⟨ckD_250, ?_⟩
  refine List.forall_mem_cons.mpr ⟨ckD_251, ?_⟩
  exact fun _ h => absurd h List.not_mem_nil
theorem ckDs : ∀ r ∈ mRs, r.2.2.2.2.2.2.2.all (ckD r.2.2.1) = true := by
  show ∀ r ∈ mR_0 ++ (mR_1 ++ (mR_2 ++ (mR_3 ++ (mR_4 ++ (mR_5 ++ (mR_6)))))), _
  exact List.forall_mem_append.mpr ⟨ckDr_0, List.forall_mem_append.mpr ⟨ckDr_1, List.forall_mem_append.mpr ⟨ckDr_2, List.forall_mem_append.mpr ⟨ckDr_3, List.forall_mem_append.mpr ⟨ckDr_4, List.forall_mem_append.mpr ⟨ckDr_5, ckDr_6⟩⟩⟩⟩⟩⟩
