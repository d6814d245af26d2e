/-! FACTS OF THE LAYOUT -/
set_option maxRecDepth 100000 in
theorem qa_0 : gNth sT 0 = some 0 := by decide +kernel
set_option maxRecDepth 100000 in
theorem qu_0 : gNth sU 0 = some (some 0) := by decide +kernel
set_option maxRecDepth 100000 in
theorem qa_1 : gNth sT 1 = some 1 := by decide +kernel
set_option maxRecDepth 100000 in
theorem qu_1 : gNth sU 1 = some (some 1) := by decide +kernel
set_option maxRecDepth 100000 in
theorem qa_2 : gNth sT 2 = some 2 := by decide +kernel
set_option maxRecDepth 100000 in
theorem qu_2 : gNth sU 2 = some (some 2) := by decide +kernel
set_option maxRecDepth 100000 in
theorem qa_3 : gNth sT 3 = some 3 := by decide +kernel
set_option maxRecDepth 100000 in
theorem qu_3 : gNth sU 3 = some (some 3) := by decide +kernel
set_option maxRecDepth 100000 in
theorem qa_4 : gNth sT 4 = some 4 := by decide +kernel
set_option maxRecDepth 100000 in
theorem qu_4 : gNth sU 4 = some (some 4) := by decide +kernel
set_option maxRecDepth 100000 in
theorem qa_5 : gNth sT 5 = some 5 := by decide +kernel
set_option maxRecDepth 100000 in
theorem qu_5 : gNth sU 5 = some (some 5) := by decide +kernel
set_option maxRecDepth 100000 in
theorem qa_6 : gNth sT 6 = some 6 := by decide +kernel
set_option maxRecDepth 100000 in
theorem qu_6 : gNth sU 6 = some (some 6) := by decide +kernel
set_option maxRecDepth 100000 in
theorem qa_7 : gNth sT 7 = some 7 := by decide +kernel
set_option maxRecDepth 100000 in
theorem qu_7 : gNth sU 7 = some (some 7) := by decide +kernel
set_option maxRecDepth 100000 in
theorem qa_104 : gNth sT 104 = some 22 := by decide +kernel
set_option maxRecDepth 100000 in
theorem qu_22 : gNth sU 22 = some (some 104) := by decide +kernel
set_option maxRecDepth 100000 in
theorem qa_105 : gNth sT 105 = some 23 := by decide +kernel
set_option maxRecDepth 100000 in
theorem qu_23 : gNth sU 23 = some (some 105) := by decide +kernel
set_option maxRecDepth 100000 in
theorem qa_106 : gNth sT 106 = some 24 := by decide +kernel
set_option maxRecDepth 100000 in
theorem qu_24 : gNth sU 24 = some (some 106) := by decide +kernel
set_option maxRecDepth 100000 in
theorem qa_107 : gNth sT 107 = some 25 := by decide +kernel
set_option maxRecDepth 100000 in
theorem qu_25 : gNth sU 25 = some (some 107) := by decide +kernel
set_option maxRecDepth 100000 in
theorem qa_108 : gNth sT 108 = some 26 := by decide +kernel
set_option maxRecDepth 100000 in
theorem qu_26 : gNth sU 26 = some (some 108) := by decide +kernel
set_option maxRecDepth 100000 in
theorem qa_109 : gNth sT 109 = some 27 := by decide +kernel
set_option maxRecDepth 100000 in
theorem qu_27 : gNth sU 27 = some (some 109) := by decide +kernel
set_option maxRecDepth 100000 in
theorem qa_128 : gNth sT 128 = some 37 := by decide +kernel
set_option maxRecDepth 100000 in
theorem qu_37 : gNth sU 37 = some (some 128) := by decide +kernel
set_option maxRecDepth 100000 in
theorem qa_129 : gNth sT 129 = some 38 := by decide +kernel
set_option maxRecDepth 100000 in
theorem qu_38 : gNth sU 38 = some (some 129) := by decide +kernel
set_option maxRecDepth 100000 in
theorem qa_137 : gNth sT 137 = some 40 := by decide +kernel
set_option maxRecDepth 100000 in
theorem qu_40 : gNth sU 40 = some (some 137) := by decide +kernel
set_option maxRecDepth 100000 in
theorem qa_192 : gNth sT 192 = some 41 := by decide +kernel
set_option maxRecDepth 100000 in
theorem qu_41 : gNth sU 41 = some (some 192) := by decide +kernel
set_option maxRecDepth 100000 in
theorem qa_193 : gNth sT 193 = some 42 := by decide +kernel
set_option maxRecDepth 100000 in
theorem qu_42 : gNth sU 42 = some (some 193) := by decide +kernel
set_option maxRecDepth 100000 in
theorem qa_195 : gNth sT 195 = some 44 := by decide +kernel
set_option maxRecDepth 100000 in
theorem qu_44 : gNth sU 44 = some (some 195) := by decide +kernel
set_option maxRecDepth 100000 in
theorem qa_196 : gNth sT 196 = some 45 := by decide +kernel
set_option maxRecDepth 100000 in
theorem qu_45 : gNth sU 45 = some (some 196) := by decide +kernel
set_option maxRecDepth 100000 in
theorem qa_229 : gNth sT 229 = some 46 := by decide +kernel
set_option maxRecDepth 100000 in
theorem qu_46 : gNth sU 46 = some (some 229) := by decide +kernel
set_option maxRecDepth 100000 in
theorem qa_230 : gNth sT 230 = some 47 := by decide +kernel
set_option maxRecDepth 100000 in
theorem qu_47 : gNth sU 47 = some (some 230) := by decide +kernel
set_option maxRecDepth 100000 in
theorem qa_236 : gNth sT 236 = some 49 := by decide +kernel
set_option maxRecDepth 100000 in
theorem qu_49 : gNth sU 49 = some (some 236) := by decide +kernel
set_option maxRecDepth 100000 in
theorem qa_237 : gNth sT 237 = some 50 := by decide +kernel
set_option maxRecDepth 100000 in
theorem qu_50 : gNth sU 50 = some (some 237) := by decide +kernel
set_option maxRecDepth 100000 in
theorem qa_238 : gNth sT 238 = some 51 := by decide +kernel
set_option maxRecDepth 100000 in
theorem qu_51 : gNth sU 51 = some (some 238) := by decide +kernel
set_option maxRecDepth 100000 in
theorem qa_239 : gNth sT 239 = some 52 := by decide +kernel
set_option maxRecDepth 100000 in
theorem qu_52 : gNth sU 52 = some (some 239) := by decide +kernel
set_option maxRecDepth 100000 in
theorem qa_240 : gNth sT 240 = some 53 := by decide +kernel
set_option maxRecDepth 100000 in
theorem qu_53 : gNth sU 53 = some (some 240) := by decide +kernel
set_option maxRecDepth 100000 in
theorem qa_241 : gNth sT 241 = some 54 := by decide +kernel
set_option maxRecDepth 100000 in
theorem qu_54 : gNth sU 54 = some (some 241) := by decide +kernel
set_option maxRecDepth 100000 in
theorem qa_242 : gNth sT 242 = some 55 := by decide +kernel
set_option maxRecDepth 100000 in
theorem qu_55 : gNth sU 55 = some (some 242) := by decide +kernel
set_option maxRecDepth 100000 in
theorem qa_339 : gNth sT 339 = some 56 := by decide +kernel
set_option maxRecDepth 100000 in
theorem qu_56 : gNth sU 56 = some (some 339) := by decide +kernel
set_option maxRecDepth 100000 in
theorem qa_340 : gNth sT 340 = some 57 := by decide +kernel
set_option maxRecDepth 100000 in
theorem qu_57 : gNth sU 57 = some (some 340) := by decide +kernel
set_option maxRecDepth 100000 in
theorem qa_343 : gNth sT 343 = some 59 := by decide +kernel
set_option maxRecDepth 100000 in
theorem qu_59 : gNth sU 59 = some (some 343) := by decide +kernel
set_option maxRecDepth 100000 in
theorem qa_344 : gNth sT 344 = some 60 := by decide +kernel
set_option maxRecDepth 100000 in
theorem qu_60 : gNth sU 60 = some (some 344) := by decide +kernel
set_option maxRecDepth 100000 in
theorem qa_633 : gNth sT 633 = some 61 := by decide +kernel
set_option maxRecDepth 100000 in
theorem qu_61 : gNth sU 61 = some (some 633) := by decide +kernel
set_option maxRecDepth 100000 in
theorem qa_634 : gNth sT 634 = some 62 := by decide +kernel
set_option maxRecDepth 100000 in
theorem qu_62 : gNth sU 62 = some (some 634) := by decide +kernel
set_option maxRecDepth 100000 in
theorem qa_635 : gNth sT 635 = some 63 := by decide +kernel
set_option maxRecDepth 100000 in
theorem qu_63 : gNth sU 63 = some (some 635) := by decide +kernel
set_option maxRecDepth 100000 in
theorem qa_636 : gNth sT 636 = some 64 := by decide +kernel
set_option maxRecDepth 100000 in
theorem qu_64 : gNth sU 64 = some (some 636) := by decide +kernel
set_option maxRecDepth 100000 in
theorem qa_637 : gNth sT 637 = some 65 := by decide +kernel
set_option maxRecDepth 100000 in
theorem qu_65 : gNth sU 65 = some (some 637) := by decide +kernel
set_option maxRecDepth 100000 in
theorem qa_638 : gNth sT 638 = some 66 := by decide +kernel
set_option maxRecDepth 100000 in
theorem qu_66 : gNth sU 66 = some (some 638) := by decide +kernel
set_option maxRecDepth 100000 in
theorem qa_639 : gNth sT 639 = some 67 := by decide +kernel
set_option maxRecDepth 100000 in
theorem qu_67 : gNth sU 67 = some (some 639) := by decide +kernel
set_option maxRecDepth 100000 in
theorem qa_640 : gNth sT 640 = some 68 := by decide +kernel
set_option maxRecDepth 100000 in
theorem qu_68 : gNth sU 68 = some (some 640) := by decide +kernel
set_option maxRecDepth 100000 in
theorem qa_641 : gNth sT 641 = some 69 := by decide +kernel
set_option maxRecDepth 100000 in
theorem qu_69 : gNth sU 69 = some (some 641) := by decide +kernel
set_option maxRecDepth 100000 in
theorem qa_642 : gNth sT 642 = some 70 := by decide +kernel
set_option maxRecDepth 100000 in
theorem qu_70 : gNth sU 70 = some (some 642) := by decide +kernel
set_option maxRecDepth 100000 in
theorem qa_643 : gNth sT 643 = some 71 := by decide +kernel
set_option maxRecDepth 100000 in
theorem qu_71 : gNth sU 71 = some (some 643) := by decide +kernel
set_option maxRecDepth 100000 in
theorem qa_644 : gNth sT 644 = some 72 := by decide +kernel
set_option maxRecDepth 100000 in
theorem qu_72 : gNth sU 72 = some (some 644) := by decide +kernel
set_option maxRecDepth 100000 in
theorem qa_645 : gNth sT 645 = some 73 := by decide +kernel
set_option maxRecDepth 100000 in
theorem qu_73 : gNth sU 73 = some (some 645) := by decide +kernel
set_option maxRecDepth 100000 in
theorem qa_646 : gNth sT 646 = some 74 := by decide +kernel
set_option maxRecDepth 100000 in
theorem qu_74 : gNth sU 74 = some (some 646) := by decide +kernel
set_option maxRecDepth 100000 in
theorem qa_647 : gNth sT 647 = some 75 := by decide +kernel
set_option maxRecDepth 100000 in
theorem qu_75 : gNth sU 75 = some (some 647) := by decide +kernel
set_option maxRecDepth 100000 in
theorem qa_648 : gNth sT 648 = some 76 := by decide +kernel
set_option maxRecDepth 100000 in
theorem qu_76 : gNth sU 76 = some (some 648) := by decide +kernel
set_option maxRecDepth 100000 in
theorem qa_649 : gNth sT 649 = some 77 := by decide +kernel
set_option maxRecDepth 100000 in
theorem qu_77 : gNth sU 77 = some (some 649) := by decide +kernel
set_option maxRecDepth 100000 in
theorem qa_650 : gNth sT 650 = some 78 := by decide +kernel
set_option maxRecDepth 100000 in
theorem qu_78 : gNth sU 78 = some (some 650) := by decide +kernel
set_option maxRecDepth 100000 in
theorem qa_651 : gNth sT 651 = some 79 := by decide +kernel
set_option maxRecDepth 100000 in
theorem qu_79 : gNth sU 79 = some (some 651) := by decide +kernel
set_option maxRecDepth 100000 in
theorem qa_652 : gNth sT 652 = some 80 := by decide +kernel
set_option maxRecDepth 100000 in
theorem qu_80 : gNth sU 80 = some (some 652) := by decide +kernel
set_option maxRecDepth 100000 in
theorem qa_653 : gNth sT 653 = some 81 := by decide +kernel
set_option maxRecDepth 100000 in
theorem qu_81 : gNth sU 81 = some (some 653) := by decide +kernel
set_option maxRecDepth 100000 in
theorem qa_654 : gNth sT 654 = some 82 := by decide +kernel
set_option maxRecDepth 100000 in
theorem qu_82 : gNth sU 82 = some (some 654) := by decide +kernel
set_option maxRecDepth 100000 in
theorem qa_655 : gNth sT 655 = some 83 := by decide +kernel
set_option maxRecDepth 100000 in
theorem qu_83 : gNth sU 83 = some (some 655) := by decide +kernel
set_option maxRecDepth 100000 in
theorem qa_656 : gNth sT 656 = some 84 := by decide +kernel
set_option maxRecDepth 100000 in
theorem qu_84 : gNth sU 84 = some (some 656) := by decide +kernel
set_option maxRecDepth 100000 in
theorem qa_657 : gNth sT 657 = some 85 := by decide +kernel
set_option maxRecDepth 100000 in
theorem qu_85 : gNth sU 85 = some (some 657) := by decide +kernel
set_option maxRecDepth 100000 in
theorem qa_658 : gNth sT 658 = some 86 := by decide +kernel
set_option maxRecDepth 100000 in
theorem qu_86 : gNth sU 86 = some (some 658) := by decide +kernel
set_option maxRecDepth 100000 in
theorem qa_659 : gNth sT 659 = some 87 := by decide +kernel
set_option maxRecDepth 100000 in
theorem qu_87 : gNth sU 87 = some (some 659) := by decide +kernel
set_option maxRecDepth 100000 in
theorem qa_660 : gNth sT 660 = some 88 := by decide +kernel
set_option maxRecDepth 100000 in
theorem qu_88 : gNth sU 88 = some (some 660) := by decide +kernel
set_option maxRecDepth 100000 in
theorem qa_661 : gNth sT 661 = some 89 := by decide +kernel
set_option maxRecDepth 100000 in
theorem qu_89 : gNth sU 89 = some (some 661) := by decide +kernel
set_option maxRecDepth 100000 in
theorem qa_662 : gNth sT 662 = some 90 := by decide +kernel
set_option maxRecDepth 100000 in
theorem qu_90 : gNth sU 90 = some (some 662) := by decide +kernel
set_option maxRecDepth 100000 in
theorem qa_663 : gNth sT 663 = some 91 := by decide +kernel
set_option maxRecDepth 100000 in
theorem qu_91 : gNth sU 91 = some (some 663) := by decide +kernel
set_option maxRecDepth 100000 in
theorem qa_8 : gNth sT 8 = some 8 := by decide +kernel
set_option maxRecDepth 100000 in
theorem qa_243 : gNth sT 243 = some 8 := by decide +kernel
set_option maxRecDepth 100000 in
theorem qa_345 : gNth sT 345 = some 8 := by decide +kernel
set_option maxRecDepth 100000 in
theorem qa_441 : gNth sT 441 = some 8 := by decide +kernel
set_option maxRecDepth 100000 in
theorem qa_537 : gNth sT 537 = some 8 := by decide +kernel
set_option maxRecDepth 100000 in
theorem qo_0 : oB 0 10 = true := by decide +kernel
set_option maxRecDepth 100000 in
theorem qr_0_0 : fdB 0 10 0 1 = true := by decide +kernel
set_option maxRecDepth 100000 in
theorem qr_0_1 : fdB 0 10 1 3 = true := by decide +kernel
set_option maxRecDepth 100000 in
theorem qr_0_2 : fdB 0 10 2 8 = true := by decide +kernel
set_option maxRecDepth 100000 in
theorem qr_0_3 : fdB 0 10 3 22 = true := by decide +kernel
set_option maxRecDepth 100000 in
theorem qr_0_4 : fdB 0 10 4 41 = true := by decide +kernel
set_option maxRecDepth 100000 in
theorem qr_0_5 : fdB 0 10 5 46 = true := by decide +kernel
set_option maxRecDepth 100000 in
theorem qr_0_6 : fdB 0 10 6 8 = true := by decide +kernel
set_option maxRecDepth 100000 in
theorem qr_0_7 : fdB 0 10 7 56 = true := by decide +kernel
set_option maxRecDepth 100000 in
theorem qr_0_8 : fdB 0 10 8 57 = true := by decide +kernel
set_option maxRecDepth 100000 in
theorem qr_0_9 : fdB 0 10 9 58 = true := by decide +kernel
set_option maxRecDepth 100000 in
theorem qr_0_10 : fdB 0 10 10 58 = true := by decide +kernel
set_option maxRecDepth 100000 in
theorem qr_0_11 : fdB 0 10 11 59 = true := by decide +kernel
set_option maxRecDepth 100000 in
theorem qr_0_12 : fdB 0 10 12 60 = true := by decide +kernel
set_option maxRecDepth 100000 in
theorem qi_0_13 : iB 0 10 13 = true := by decide +kernel
set_option maxRecDepth 100000 in
theorem qi_0_14 : iB 0 10 14 = true := by decide +kernel
set_option maxRecDepth 100000 in
theorem qi_0_15 : iB 0 10 15 = true := by decide +kernel
set_option maxRecDepth 100000 in
theorem qo_1 : oB 1 5 = true := by decide +kernel
set_option maxRecDepth 100000 in
theorem qr_1_0 : fdB 1 5 0 2 = true := by decide +kernel
set_option maxRecDepth 100000 in
theorem qi_1_1 : iB 1 5 1 = true := by decide +kernel
set_option maxRecDepth 100000 in
theorem qw_2 : wB 2 1 440 = true := by decide +kernel
set_option maxRecDepth 100000 in
theorem qo_3 : oB 3 3 = true := by decide +kernel
set_option maxRecDepth 100000 in
theorem qr_3_0 : fdB 3 3 0 1 = true := by decide +kernel
set_option maxRecDepth 100000 in
theorem qr_3_1 : fdB 3 3 1 4 = true := by decide +kernel
set_option maxRecDepth 100000 in
theorem qr_3_2 : fdB 3 3 2 5 = true := by decide +kernel
set_option maxRecDepth 100000 in
theorem qr_3_3 : fdB 3 3 3 6 = true := by decide +kernel
set_option maxRecDepth 100000 in
theorem qr_3_4 : fdB 3 3 4 7 = true := by decide +kernel
set_option maxRecDepth 100000 in
theorem qi_3_5 : iB 3 3 5 = true := by decide +kernel
set_option maxRecDepth 100000 in
theorem qi_3_6 : iB 3 3 6 = true := by decide +kernel
set_option maxRecDepth 100000 in
theorem qi_3_7 : iB 3 3 7 = true := by decide +kernel
set_option maxRecDepth 100000 in
theorem qn_3_8 : nB 3 3 8 28 = true := by decide +kernel
set_option maxRecDepth 100000 in
theorem qi_3_9 : iB 3 3 9 = true := by decide +kernel
set_option maxRecDepth 100000 in
theorem qi_3_10 : iB 3 3 10 = true := by decide +kernel
set_option maxRecDepth 100000 in
theorem qi_3_11 : iB 3 3 11 = true := by decide +kernel
set_option maxRecDepth 100000 in
theorem qi_3_12 : iB 3 3 12 = true := by decide +kernel
set_option maxRecDepth 100000 in
theorem qi_3_13 : iB 3 3 13 = true := by decide +kernel
set_option maxRecDepth 100000 in
theorem qw_4 : wB 4 1 401 = true := by decide +kernel
set_option maxRecDepth 100000 in
theorem qw_5 : wB 5 1 401 = true := by decide +kernel
set_option maxRecDepth 100000 in
theorem qw_6 : wB 6 1 401 = true := by decide +kernel
set_option maxRecDepth 100000 in
theorem qw_7 : wB 7 1 401 = true := by decide +kernel
set_option maxRecDepth 100000 in
theorem qo_8 : oB 8 1 = true := by decide +kernel
set_option maxRecDepth 100000 in
theorem qi_8_0 : iB 8 1 0 = true := by decide +kernel
set_option maxRecDepth 100000 in
theorem qi_8_1 : iB 8 1 1 = true := by decide +kernel
set_option maxRecDepth 100000 in
theorem qr_8_2 : fdB 8 1 2 9 = true := by decide +kernel
set_option maxRecDepth 100000 in
theorem qr_8_3 : fdB 8 1 3 10 = true := by decide +kernel
set_option maxRecDepth 100000 in
theorem qr_8_4 : fdB 8 1 4 11 = true := by decide +kernel
set_option maxRecDepth 100000 in
theorem qr_8_5 : fdB 8 1 5 12 = true := by decide +kernel
set_option maxRecDepth 100000 in
theorem qr_8_6 : fdB 8 1 6 13 = true := by decide +kernel
set_option maxRecDepth 100000 in
theorem qr_8_7 : fdB 8 1 7 14 = true := by decide +kernel
set_option maxRecDepth 100000 in
theorem qr_8_8 : fdB 8 1 8 15 = true := by decide +kernel
set_option maxRecDepth 100000 in
theorem qr_8_9 : fdB 8 1 9 16 = true := by decide +kernel
set_option maxRecDepth 100000 in
theorem qr_8_10 : fdB 8 1 10 17 = true := by decide +kernel
set_option maxRecDepth 100000 in
theorem qi_8_11 : iB 8 1 11 = true := by decide +kernel
set_option maxRecDepth 100000 in
theorem qr_8_12 : fdB 8 1 12 18 = true := by decide +kernel
set_option maxRecDepth 100000 in
theorem qi_8_13 : iB 8 1 13 = true := by decide +kernel
set_option maxRecDepth 100000 in
theorem qr_8_14 : fdB 8 1 14 19 = true := by decide +kernel
set_option maxRecDepth 100000 in
theorem qi_8_15 : iB 8 1 15 = true := by decide +kernel
set_option maxRecDepth 100000 in
theorem qi_8_16 : iB 8 1 16 = true := by decide +kernel
set_option maxRecDepth 100000 in
theorem qi_8_17 : iB 8 1 17 = true := by decide +kernel
set_option maxRecDepth 100000 in
theorem qi_8_18 : iB 8 1 18 = true := by decide +kernel
set_option maxRecDepth 100000 in
theorem qi_8_19 : iB 8 1 19 = true := by decide +kernel
set_option maxRecDepth 100000 in
theorem qw_9 : wB 9 1 256 = true := by decide +kernel
set_option maxRecDepth 100000 in
theorem qw_10 : wB 10 1 256 = true := by decide +kernel
set_option maxRecDepth 100000 in
theorem qw_11 : wB 11 1 256 = true := by decide +kernel
set_option maxRecDepth 100000 in
theorem qw_12 : wB 12 1 256 = true := by decide +kernel
set_option maxRecDepth 100000 in
theorem qw_13 : wB 13 1 256 = true := by decide +kernel
set_option maxRecDepth 100000 in
theorem qw_14 : wB 14 1 256 = true := by decide +kernel
set_option maxRecDepth 100000 in
theorem qw_15 : wB 15 1 256 = true := by decide +kernel
set_option maxRecDepth 100000 in
theorem qw_16 : wB 16 1 256 = true := by decide +kernel
set_option maxRecDepth 100000 in
theorem qw_17 : wB 17 1 9 = true := by decide +kernel
set_option maxRecDepth 100000 in
theorem qz_18 : rrB 18 7 24 20 = true := by decide +kernel
set_option maxRecDepth 100000 in
theorem qz_19 : rrB 19 6 60 21 = true := by decide +kernel
set_option maxRecDepth 100000 in
theorem qo_20 : oB 20 9 = true := by decide +kernel
set_option maxRecDepth 100000 in
theorem qi_20_0 : iB 20 9 0 = true := by decide +kernel
set_option maxRecDepth 100000 in
theorem qi_20_1 : iB 20 9 1 = true := by decide +kernel
set_option maxRecDepth 100000 in
theorem qi_20_2 : iB 20 9 2 = true := by decide +kernel
set_option maxRecDepth 100000 in
theorem qi_20_3 : iB 20 9 3 = true := by decide +kernel
set_option maxRecDepth 100000 in
theorem qi_20_4 : iB 20 9 4 = true := by decide +kernel
set_option maxRecDepth 100000 in
theorem qi_20_5 : iB 20 9 5 = true := by decide +kernel
set_option maxRecDepth 100000 in
theorem qo_21 : oB 21 8 = true := by decide +kernel
set_option maxRecDepth 100000 in
theorem qi_21_0 : iB 21 8 0 = true := by decide +kernel
set_option maxRecDepth 100000 in
theorem qi_21_1 : iB 21 8 1 = true := by decide +kernel
set_option maxRecDepth 100000 in
theorem qi_21_2 : iB 21 8 2 = true := by decide +kernel
set_option maxRecDepth 100000 in
theorem qi_21_3 : iB 21 8 3 = true := by decide +kernel
set_option maxRecDepth 100000 in
theorem qi_21_4 : iB 21 8 4 = true := by decide +kernel
set_option maxRecDepth 100000 in
theorem qo_22 : oB 22 7 = true := by decide +kernel
set_option maxRecDepth 100000 in
theorem qr_22_0 : fdB 22 7 0 23 = true := by decide +kernel
set_option maxRecDepth 100000 in
theorem qr_22_1 : fdB 22 7 1 27 = true := by decide +kernel
set_option maxRecDepth 100000 in
theorem qr_22_2 : fdB 22 7 2 28 = true := by decide +kernel
set_option maxRecDepth 100000 in
theorem qr_22_3 : fdB 22 7 3 28 = true := by decide +kernel
set_option maxRecDepth 100000 in
theorem qr_22_4 : fdB 22 7 4 37 = true := by decide +kernel
set_option maxRecDepth 100000 in
theorem qr_22_5 : fdB 22 7 5 38 = true := by decide +kernel
set_option maxRecDepth 100000 in
theorem qr_22_6 : fdB 22 7 6 40 = true := by decide +kernel
set_option maxRecDepth 100000 in
theorem qr_22_7 : fdB 22 7 7 8 = true := by decide +kernel
set_option maxRecDepth 100000 in
theorem qi_22_8 : iB 22 7 8 = true := by decide +kernel
set_option maxRecDepth 100000 in
theorem qi_22_9 : iB 22 7 9 = true := by decide +kernel
set_option maxRecDepth 100000 in
theorem qi_22_10 : iB 22 7 10 = true := by decide +kernel
set_option maxRecDepth 100000 in
theorem qi_22_11 : iB 22 7 11 = true := by decide +kernel
set_option maxRecDepth 100000 in
theorem qo_23 : oB 23 0 = true := by decide +kernel
set_option maxRecDepth 100000 in
theorem qr_23_0 : fdB 23 0 0 24 = true := by decide +kernel
set_option maxRecDepth 100000 in
theorem qr_23_1 : fdB 23 0 1 25 = true := by decide +kernel
set_option maxRecDepth 100000 in
theorem qr_23_2 : fdB 23 0 2 26 = true := by decide +kernel
set_option maxRecDepth 100000 in
theorem qi_23_3 : iB 23 0 3 = true := by decide +kernel
set_option maxRecDepth 100000 in
theorem qi_23_4 : iB 23 0 4 = true := by decide +kernel
set_option maxRecDepth 100000 in
theorem qw_24 : wB 24 1 256 = true := by decide +kernel
set_option maxRecDepth 100000 in
theorem qw_25 : wB 25 1 256 = true := by decide +kernel
set_option maxRecDepth 100000 in
theorem qw_26 : wB 26 1 2048 = true := by decide +kernel
set_option maxRecDepth 100000 in
theorem qz_27 : rrB 27 5 6 28 = true := by decide +kernel
set_option maxRecDepth 100000 in
theorem qo_28 : oB 28 6 = true := by decide +kernel
set_option maxRecDepth 100000 in
theorem qr_28_0 : fdB 28 6 0 29 = true := by decide +kernel
set_option maxRecDepth 100000 in
theorem qr_28_1 : fdB 28 6 1 30 = true := by decide +kernel
set_option maxRecDepth 100000 in
theorem qr_28_2 : fdB 28 6 2 31 = true := by decide +kernel
set_option maxRecDepth 100000 in
theorem qr_28_3 : fdB 28 6 3 32 = true := by decide +kernel
set_option maxRecDepth 100000 in
theorem qr_28_4 : fdB 28 6 4 33 = true := by decide +kernel
set_option maxRecDepth 100000 in
theorem qr_28_5 : fdB 28 6 5 34 = true := by decide +kernel
set_option maxRecDepth 100000 in
theorem qr_28_6 : fdB 28 6 6 35 = true := by decide +kernel
set_option maxRecDepth 100000 in
theorem qr_28_7 : fdB 28 6 7 36 = true := by decide +kernel
set_option maxRecDepth 100000 in
theorem qi_28_8 : iB 28 6 8 = true := by decide +kernel
set_option maxRecDepth 100000 in
theorem qi_28_9 : iB 28 6 9 = true := by decide +kernel
set_option maxRecDepth 100000 in
theorem qi_28_10 : iB 28 6 10 = true := by decide +kernel
set_option maxRecDepth 100000 in
theorem qi_28_11 : iB 28 6 11 = true := by decide +kernel
set_option maxRecDepth 100000 in
theorem qi_28_12 : iB 28 6 12 = true := by decide +kernel
set_option maxRecDepth 100000 in
theorem qi_28_13 : iB 28 6 13 = true := by decide +kernel
set_option maxRecDepth 100000 in
theorem qw_29 : wB 29 1 16 = true := by decide +kernel
set_option maxRecDepth 100000 in
theorem qw_30 : wB 30 1 16 = true := by decide +kernel
set_option maxRecDepth 100000 in
theorem qw_31 : wB 31 1 16 = true := by decide +kernel
set_option maxRecDepth 100000 in
theorem qw_32 : wB 32 1 16 = true := by decide +kernel
set_option maxRecDepth 100000 in
theorem qw_33 : wB 33 1 16 = true := by decide +kernel
set_option maxRecDepth 100000 in
theorem qw_34 : wB 34 1 96 = true := by decide +kernel
set_option maxRecDepth 100000 in
theorem qw_35 : wB 35 1 96 = true := by decide +kernel
set_option maxRecDepth 100000 in
theorem qw_36 : wB 36 1 96 = true := by decide +kernel
set_option maxRecDepth 100000 in
theorem qw_37 : wB 37 1 1536 = true := by decide +kernel
set_option maxRecDepth 100000 in
theorem qz_38 : rrB 38 8 7 39 = true := by decide +kernel
set_option maxRecDepth 100000 in
theorem qw_39 : wB 39 1 1536 = true := by decide +kernel
set_option maxRecDepth 100000 in
theorem qo_40 : oB 40 8 = true := by decide +kernel
set_option maxRecDepth 100000 in
theorem qi_40_0 : iB 40 8 0 = true := by decide +kernel
set_option maxRecDepth 100000 in
theorem qi_40_1 : iB 40 8 1 = true := by decide +kernel
set_option maxRecDepth 100000 in
theorem qi_40_2 : iB 40 8 2 = true := by decide +kernel
set_option maxRecDepth 100000 in
theorem qi_40_3 : iB 40 8 3 = true := by decide +kernel
set_option maxRecDepth 100000 in
theorem qi_40_4 : iB 40 8 4 = true := by decide +kernel
set_option maxRecDepth 100000 in
theorem qo_41 : oB 41 2 = true := by decide +kernel
set_option maxRecDepth 100000 in
theorem qr_41_0 : fdB 41 2 0 42 = true := by decide +kernel
set_option maxRecDepth 100000 in
theorem qr_41_1 : fdB 41 2 1 43 = true := by decide +kernel
set_option maxRecDepth 100000 in
theorem qr_41_2 : fdB 41 2 2 44 = true := by decide +kernel
set_option maxRecDepth 100000 in
theorem qr_41_3 : fdB 41 2 3 45 = true := by decide +kernel
set_option maxRecDepth 100000 in
theorem qr_41_4 : fdB 41 2 4 22 = true := by decide +kernel
set_option maxRecDepth 100000 in
theorem qw_43 : wB 43 1 256 = true := by decide +kernel
set_option maxRecDepth 100000 in
theorem qw_44 : wB 44 1 256 = true := by decide +kernel
set_option maxRecDepth 100000 in
theorem qz_45 : rrB 45 8 32 43 = true := by decide +kernel
set_option maxRecDepth 100000 in
theorem qo_46 : oB 46 4 = true := by decide +kernel
set_option maxRecDepth 100000 in
theorem qr_46_0 : fdB 46 4 0 47 = true := by decide +kernel
set_option maxRecDepth 100000 in
theorem qr_46_1 : fdB 46 4 1 49 = true := by decide +kernel
set_option maxRecDepth 100000 in
theorem qi_46_2 : iB 46 4 2 = true := by decide +kernel
set_option maxRecDepth 100000 in
theorem qr_46_3 : fdB 46 4 3 50 = true := by decide +kernel
set_option maxRecDepth 100000 in
theorem qi_46_4 : iB 46 4 4 = true := by decide +kernel
set_option maxRecDepth 100000 in
theorem qr_46_5 : fdB 46 4 5 51 = true := by decide +kernel
set_option maxRecDepth 100000 in
theorem qr_46_6 : fdB 46 4 6 52 = true := by decide +kernel
set_option maxRecDepth 100000 in
theorem qr_46_7 : fdB 46 4 7 53 = true := by decide +kernel
set_option maxRecDepth 100000 in
theorem qi_46_8 : iB 46 4 8 = true := by decide +kernel
set_option maxRecDepth 100000 in
theorem qr_46_9 : fdB 46 4 9 54 = true := by decide +kernel
set_option maxRecDepth 100000 in
theorem qr_46_10 : fdB 46 4 10 55 = true := by decide +kernel
set_option maxRecDepth 100000 in
theorem qz_47 : rrB 47 8 5 48 = true := by decide +kernel
set_option maxRecDepth 100000 in
theorem qw_48 : wB 48 1 200 = true := by decide +kernel
set_option maxRecDepth 100000 in
theorem qw_49 : wB 49 1 5 = true := by decide +kernel
set_option maxRecDepth 100000 in
theorem qw_50 : wB 50 1 256 = true := by decide +kernel
set_option maxRecDepth 100000 in
theorem qw_51 : wB 51 1 5 = true := by decide +kernel
set_option maxRecDepth 100000 in
theorem qw_52 : wB 52 1 5 = true := by decide +kernel
set_option maxRecDepth 100000 in
theorem qw_53 : wB 53 1 5 = true := by decide +kernel
set_option maxRecDepth 100000 in
theorem qw_54 : wB 54 1 5 = true := by decide +kernel
set_option maxRecDepth 100000 in
theorem qw_55 : wB 55 1 5 = true := by decide +kernel
set_option maxRecDepth 100000 in
theorem qz_56 : rrB 56 4 3 8 = true := by decide +kernel
set_option maxRecDepth 100000 in
theorem qw_57 : wB 57 3 3 = true := by decide +kernel
set_option maxRecDepth 100000 in
theorem qw_58 : wB 58 1 201 = true := by decide +kernel
set_option maxRecDepth 100000 in
theorem qw_59 : wB 59 1 2 = true := by decide +kernel
set_option maxRecDepth 100000 in
theorem qw_60 : wB 60 1 6 = true := by decide +kernel
set_option maxRecDepth 100000 in
theorem qo_61 : oB 61 11 = true := by decide +kernel
set_option maxRecDepth 100000 in
theorem qi_61_0 : iB 61 11 0 = true := by decide +kernel
set_option maxRecDepth 100000 in
theorem qr_61_1 : fdB 61 11 1 62 = true := by decide +kernel
set_option maxRecDepth 100000 in
theorem qi_61_2 : iB 61 11 2 = true := by decide +kernel
set_option maxRecDepth 100000 in
theorem qi_61_3 : iB 61 11 3 = true := by decide +kernel
set_option maxRecDepth 100000 in
theorem qi_61_4 : iB 61 11 4 = true := by decide +kernel
set_option maxRecDepth 100000 in
theorem qr_61_5 : fdB 61 11 5 63 = true := by decide +kernel
set_option maxRecDepth 100000 in
theorem qr_61_6 : fdB 61 11 6 64 = true := by decide +kernel
set_option maxRecDepth 100000 in
theorem qr_61_7 : fdB 61 11 7 65 = true := by decide +kernel
set_option maxRecDepth 100000 in
theorem qr_61_8 : fdB 61 11 8 66 = true := by decide +kernel
set_option maxRecDepth 100000 in
theorem qr_61_9 : fdB 61 11 9 67 = true := by decide +kernel
set_option maxRecDepth 100000 in
theorem qr_61_10 : fdB 61 11 10 68 = true := by decide +kernel
set_option maxRecDepth 100000 in
theorem qr_61_11 : fdB 61 11 11 69 = true := by decide +kernel
set_option maxRecDepth 100000 in
theorem qr_61_12 : fdB 61 11 12 70 = true := by decide +kernel
set_option maxRecDepth 100000 in
theorem qr_61_13 : fdB 61 11 13 71 = true := by decide +kernel
set_option maxRecDepth 100000 in
theorem qr_61_14 : fdB 61 11 14 72 = true := by decide +kernel
set_option maxRecDepth 100000 in
theorem qr_61_15 : fdB 61 11 15 73 = true := by decide +kernel
set_option maxRecDepth 100000 in
theorem qr_61_16 : fdB 61 11 16 74 = true := by decide +kernel
set_option maxRecDepth 100000 in
theorem qr_61_17 : fdB 61 11 17 75 = true := by decide +kernel
set_option maxRecDepth 100000 in
theorem qr_61_18 : fdB 61 11 18 76 = true := by decide +kernel
set_option maxRecDepth 100000 in
theorem qi_61_19 : iB 61 11 19 = true := by decide +kernel
set_option maxRecDepth 100000 in
theorem qi_61_20 : iB 61 11 20 = true := by decide +kernel
set_option maxRecDepth 100000 in
theorem qi_61_21 : iB 61 11 21 = true := by decide +kernel
set_option maxRecDepth 100000 in
theorem qi_61_22 : iB 61 11 22 = true := by decide +kernel
set_option maxRecDepth 100000 in
theorem qi_61_23 : iB 61 11 23 = true := by decide +kernel
set_option maxRecDepth 100000 in
theorem qi_61_24 : iB 61 11 24 = true := by decide +kernel
set_option maxRecDepth 100000 in
theorem qi_61_25 : iB 61 11 25 = true := by decide +kernel
set_option maxRecDepth 100000 in
theorem qi_61_26 : iB 61 11 26 = true := by decide +kernel
set_option maxRecDepth 100000 in
theorem qi_61_27 : iB 61 11 27 = true := by decide +kernel
set_option maxRecDepth 100000 in
theorem qi_61_28 : iB 61 11 28 = true := by decide +kernel
set_option maxRecDepth 100000 in
theorem qi_61_29 : iB 61 11 29 = true := by decide +kernel
set_option maxRecDepth 100000 in
theorem qi_61_30 : iB 61 11 30 = true := by decide +kernel
set_option maxRecDepth 100000 in
theorem ql_61_31 : lB 61 11 31 = true := by decide +kernel
set_option maxRecDepth 100000 in
theorem qi_61_32 : iB 61 11 32 = true := by decide +kernel
set_option maxRecDepth 100000 in
theorem qr_61_33 : fdB 61 11 33 77 = true := by decide +kernel
set_option maxRecDepth 100000 in
theorem qi_61_34 : iB 61 11 34 = true := by decide +kernel
set_option maxRecDepth 100000 in
theorem qi_61_35 : iB 61 11 35 = true := by decide +kernel
set_option maxRecDepth 100000 in
theorem qi_61_36 : iB 61 11 36 = true := by decide +kernel
set_option maxRecDepth 100000 in
theorem qi_61_37 : iB 61 11 37 = true := by decide +kernel
set_option maxRecDepth 100000 in
theorem qi_61_38 : iB 61 11 38 = true := by decide +kernel
set_option maxRecDepth 100000 in
theorem qi_61_39 : iB 61 11 39 = true := by decide +kernel
set_option maxRecDepth 100000 in
theorem qi_61_40 : iB 61 11 40 = true := by decide +kernel
set_option maxRecDepth 100000 in
theorem qi_61_41 : iB 61 11 41 = true := by decide +kernel
set_option maxRecDepth 100000 in
theorem qi_61_42 : iB 61 11 42 = true := by decide +kernel
set_option maxRecDepth 100000 in
theorem qr_61_43 : fdB 61 11 43 78 = true := by decide +kernel
set_option maxRecDepth 100000 in
theorem qr_61_44 : fdB 61 11 44 79 = true := by decide +kernel
set_option maxRecDepth 100000 in
theorem qr_61_45 : fdB 61 11 45 80 = true := by decide +kernel
set_option maxRecDepth 100000 in
theorem qr_61_46 : fdB 61 11 46 81 = true := by decide +kernel
set_option maxRecDepth 100000 in
theorem qr_61_47 : fdB 61 11 47 82 = true := by decide +kernel
set_option maxRecDepth 100000 in
theorem qr_61_48 : fdB 61 11 48 83 = true := by decide +kernel
set_option maxRecDepth 100000 in
theorem qi_61_49 : iB 61 11 49 = true := by decide +kernel
set_option maxRecDepth 100000 in
theorem qi_61_50 : iB 61 11 50 = true := by decide +kernel
set_option maxRecDepth 100000 in
theorem qi_61_51 : iB 61 11 51 = true := by decide +kernel
set_option maxRecDepth 100000 in
theorem qr_61_52 : fdB 61 11 52 84 = true := by decide +kernel
set_option maxRecDepth 100000 in
theorem qi_61_53 : iB 61 11 53 = true := by decide +kernel
set_option maxRecDepth 100000 in
theorem qr_61_54 : fdB 61 11 54 85 = true := by decide +kernel
set_option maxRecDepth 100000 in
theorem qr_61_55 : fdB 61 11 55 86 = true := by decide +kernel
set_option maxRecDepth 100000 in
theorem qr_61_56 : fdB 61 11 56 87 = true := by decide +kernel
set_option maxRecDepth 100000 in
theorem qr_61_57 : fdB 61 11 57 88 = true := by decide +kernel
set_option maxRecDepth 100000 in
theorem qr_61_58 : fdB 61 11 58 89 = true := by decide +kernel
set_option maxRecDepth 100000 in
theorem qr_61_59 : fdB 61 11 59 90 = true := by decide +kernel
set_option maxRecDepth 100000 in
theorem qi_61_60 : iB 61 11 60 = true := by decide +kernel
set_option maxRecDepth 100000 in
theorem qi_61_61 : iB 61 11 61 = true := by decide +kernel
set_option maxRecDepth 100000 in
theorem qi_61_62 : iB 61 11 62 = true := by decide +kernel
set_option maxRecDepth 100000 in
theorem qw_62 : wB 62 0 440 = true := by decide +kernel
set_option maxRecDepth 100000 in
theorem qw_63 : wB 63 1 2314 = true := by decide +kernel
set_option maxRecDepth 100000 in
theorem qw_64 : wB 64 1 6942 = true := by decide +kernel
set_option maxRecDepth 100000 in
theorem qw_65 : wB 65 1 2314 = true := by decide +kernel
set_option maxRecDepth 100000 in
theorem qw_66 : wB 66 3 3 = true := by decide +kernel
set_option maxRecDepth 100000 in
theorem qw_67 : wB 67 1 8 = true := by decide +kernel
set_option maxRecDepth 100000 in
theorem qw_68 : wB 68 1 128 = true := by decide +kernel
set_option maxRecDepth 100000 in
theorem qw_69 : wB 69 1 128 = true := by decide +kernel
set_option maxRecDepth 100000 in
theorem qw_70 : wB 70 1 128 = true := by decide +kernel
set_option maxRecDepth 100000 in
theorem qw_71 : wB 71 1 128 = true := by decide +kernel
set_option maxRecDepth 100000 in
theorem qw_72 : wB 72 1 128 = true := by decide +kernel
set_option maxRecDepth 100000 in
theorem qw_73 : wB 73 1 1600 = true := by decide +kernel
set_option maxRecDepth 100000 in
theorem qw_74 : wB 74 1 1600 = true := by decide +kernel
set_option maxRecDepth 100000 in
theorem qw_75 : wB 75 1 1600 = true := by decide +kernel
set_option maxRecDepth 100000 in
theorem qw_76 : wB 76 1 100 = true := by decide +kernel
set_option maxRecDepth 100000 in
theorem qw_77 : wB 77 3 60 = true := by decide +kernel
set_option maxRecDepth 100000 in
theorem qw_78 : wB 78 3 256 = true := by decide +kernel
set_option maxRecDepth 100000 in
theorem qw_79 : wB 79 3 256 = true := by decide +kernel
set_option maxRecDepth 100000 in
theorem qw_80 : wB 80 3 256 = true := by decide +kernel
set_option maxRecDepth 100000 in
theorem qw_81 : wB 81 3 256 = true := by decide +kernel
set_option maxRecDepth 100000 in
theorem qw_82 : wB 82 1 16384 = true := by decide +kernel
set_option maxRecDepth 100000 in
theorem qw_83 : wB 83 1 256 = true := by decide +kernel
set_option maxRecDepth 100000 in
theorem qw_84 : wB 84 1 2 = true := by decide +kernel
set_option maxRecDepth 100000 in
theorem qw_85 : wB 85 1 201 = true := by decide +kernel
set_option maxRecDepth 100000 in
theorem qw_86 : wB 86 1 201 = true := by decide +kernel
set_option maxRecDepth 100000 in
theorem qw_87 : wB 87 1 1280 = true := by decide +kernel
set_option maxRecDepth 100000 in
theorem qw_88 : wB 88 1 5 = true := by decide +kernel
set_option maxRecDepth 100000 in
theorem qw_89 : wB 89 1 5 = true := by decide +kernel
set_option maxRecDepth 100000 in
theorem qw_90 : wB 90 1 5 = true := by decide +kernel
set_option maxRecDepth 100000 in
theorem qk_3_8 : kB 3 3 8 = true := by decide +kernel
set_option maxRecDepth 100000 in
theorem qb_3_8 : rB 3 3 8 28 = true := by decide +kernel
theorem SQ.kr_3_8 {M : Mem} {r : Nat} (h : SQ M) (hr : gNth sT r = some 28) : SQ (wR M 3 8 r) := h.kr qa_3 qb_3_8 hr (by decide) (by decide)
set_option maxRecDepth 100000 in
theorem qk_22_2 : kB 22 7 2 = true := by decide +kernel
set_option maxRecDepth 100000 in
theorem qb_22_2 : rB 22 7 2 28 = true := by decide +kernel
theorem SQ.kr_22_2 {M : Mem} {r : Nat} (h : SQ M) (hr : gNth sT r = some 28) : SQ (wR M 104 2 r) := h.kr qa_104 qb_22_2 hr (by decide) (by decide)
set_option maxRecDepth 100000 in
theorem qk_22_3 : kB 22 7 3 = true := by decide +kernel
set_option maxRecDepth 100000 in
theorem qb_22_3 : rB 22 7 3 28 = true := by decide +kernel
theorem SQ.kr_22_3 {M : Mem} {r : Nat} (h : SQ M) (hr : gNth sT r = some 28) : SQ (wR M 104 3 r) := h.kr qa_104 qb_22_3 hr (by decide) (by decide)
set_option maxRecDepth 100000 in
theorem qk_22_7 : kB 22 7 7 = true := by decide +kernel
set_option maxRecDepth 100000 in
theorem qb_22_7 : rB 22 7 7 8 = true := by decide +kernel
theorem SQ.kr_22_7 {M : Mem} {r : Nat} (h : SQ M) (hr : gNth sT r = some 8) : SQ (wR M 104 7 r) := h.kr qa_104 qb_22_7 hr (by decide) (by decide)
set_option maxRecDepth 100000 in
theorem tx_m : ∀ t, t < 664 → gNth sT t = some 28 → t ∈ fxT := by decide +kernel
set_option maxRecDepth 100000 in
theorem tl_m : ∀ t, t < 664 → gNth sT t = some 8 → t ∈ fxA := by decide +kernel
set_option maxRecDepth 100000 in
theorem sT_ln : sT.length = 664 := by decide +kernel
theorem tx_mem {t : Nat} (h : gNth sT t = some 28) : t ∈ fxT := tx_m t (by have h1 := gNth_lt _ _ _ h; rw [sT_ln] at h1; exact h1) h
theorem tl_mem {t : Nat} (h : gNth sT t = some 8) : t ∈ fxA := tl_m t (by have h1 := gNth_lt _ _ _ h; rw [sT_ln] at h1; exact h1) h
set_option maxRecDepth 100000 in
theorem tx_n0 : ∀ t ∈ fxT, gNth sT (t + 1) = some 29 := by decide +kernel
theorem fx_g0 {t : Nat} (h : gNth sT t = some 28) : gNth sT (t + 1) = some 29 := tx_n0 t (tx_mem h)
theorem fx_t0 {M : Mem} {t : Nat} (hS : SQ M) (h : gNth sT t = some 28) : fV M t 0 = some (.ref (t + 1)) := hS.2.1 t (tx_mem h) 0 (by decide)
set_option maxRecDepth 100000 in
theorem tx_n1 : ∀ t ∈ fxT, gNth sT (t + 2) = some 30 := by decide +kernel
theorem fx_g1 {t : Nat} (h : gNth sT t = some 28) : gNth sT (t + 2) = some 30 := tx_n1 t (tx_mem h)
theorem fx_t1 {M : Mem} {t : Nat} (hS : SQ M) (h : gNth sT t = some 28) : fV M t 1 = some (.ref (t + 2)) := hS.2.1 t (tx_mem h) 1 (by decide)
set_option maxRecDepth 100000 in
theorem tx_n2 : ∀ t ∈ fxT, gNth sT (t + 3) = some 31 := by decide +kernel
theorem fx_g2 {t : Nat} (h : gNth sT t = some 28) : gNth sT (t + 3) = some 31 := tx_n2 t (tx_mem h)
theorem fx_t2 {M : Mem} {t : Nat} (hS : SQ M) (h : gNth sT t = some 28) : fV M t 2 = some (.ref (t + 3)) := hS.2.1 t (tx_mem h) 2 (by decide)
set_option maxRecDepth 100000 in
theorem tx_n3 : ∀ t ∈ fxT, gNth sT (t + 4) = some 32 := by decide +kernel
theorem fx_g3 {t : Nat} (h : gNth sT t = some 28) : gNth sT (t + 4) = some 32 := tx_n3 t (tx_mem h)
theorem fx_t3 {M : Mem} {t : Nat} (hS : SQ M) (h : gNth sT t = some 28) : fV M t 3 = some (.ref (t + 4)) := hS.2.1 t (tx_mem h) 3 (by decide)
set_option maxRecDepth 100000 in
theorem tx_n4 : ∀ t ∈ fxT, gNth sT (t + 5) = some 33 := by decide +kernel
theorem fx_g4 {t : Nat} (h : gNth sT t = some 28) : gNth sT (t + 5) = some 33 := tx_n4 t (tx_mem h)
theorem fx_t4 {M : Mem} {t : Nat} (hS : SQ M) (h : gNth sT t = some 28) : fV M t 4 = some (.ref (t + 5)) := hS.2.1 t (tx_mem h) 4 (by decide)
set_option maxRecDepth 100000 in
theorem tx_n5 : ∀ t ∈ fxT, gNth sT (t + 6) = some 34 := by decide +kernel
theorem fx_g5 {t : Nat} (h : gNth sT t = some 28) : gNth sT (t + 6) = some 34 := tx_n5 t (tx_mem h)
theorem fx_t5 {M : Mem} {t : Nat} (hS : SQ M) (h : gNth sT t = some 28) : fV M t 5 = some (.ref (t + 6)) := hS.2.1 t (tx_mem h) 5 (by decide)
set_option maxRecDepth 100000 in
theorem tx_n6 : ∀ t ∈ fxT, gNth sT (t + 7) = some 35 := by decide +kernel
theorem fx_g6 {t : Nat} (h : gNth sT t = some 28) : gNth sT (t + 7) = some 35 := tx_n6 t (tx_mem h)
theorem fx_t6 {M : Mem} {t : Nat} (hS : SQ M) (h : gNth sT t = some 28) : fV M t 6 = some (.ref (t + 7)) := hS.2.1 t (tx_mem h) 6 (by decide)
set_option maxRecDepth 100000 in
theorem tx_n7 : ∀ t ∈ fxT, gNth sT (t + 8) = some 36 := by decide +kernel
theorem fx_g7 {t : Nat} (h : gNth sT t = some 28) : gNth sT (t + 8) = some 36 := tx_n7 t (tx_mem h)
theorem fx_t7 {M : Mem} {t : Nat} (hS : SQ M) (h : gNth sT t = some 28) : fV M t 7 = some (.ref (t + 8)) := hS.2.1 t (tx_mem h) 7 (by decide)
set_option maxRecDepth 100000 in
theorem tl_n2 : ∀ t ∈ fxA, gNth sT (t + 1) = some 9 := by decide +kernel
theorem fx_h2 {t : Nat} (h : gNth sT t = some 8) : gNth sT (t + 1) = some 9 := tl_n2 t (tl_mem h)
theorem fx_l2 {M : Mem} {t : Nat} (hS : SQ M) (h : gNth sT t = some 8) : fV M t 2 = some (.ref (t + 1)) := (hS.2.2 t (tl_mem h)).1 0 (by decide)
set_option maxRecDepth 100000 in
theorem tl_n3 : ∀ t ∈ fxA, gNth sT (t + 2) = some 10 := by decide +kernel
theorem fx_h3 {t : Nat} (h : gNth sT t = some 8) : gNth sT (t + 2) = some 10 := tl_n3 t (tl_mem h)
theorem fx_l3 {M : Mem} {t : Nat} (hS : SQ M) (h : gNth sT t = some 8) : fV M t 3 = some (.ref (t + 2)) := (hS.2.2 t (tl_mem h)).1 1 (by decide)
set_option maxRecDepth 100000 in
theorem tl_n4 : ∀ t ∈ fxA, gNth sT (t + 3) = some 11 := by decide +kernel
theorem fx_h4 {t : Nat} (h : gNth sT t = some 8) : gNth sT (t + 3) = some 11 := tl_n4 t (tl_mem h)
theorem fx_l4 {M : Mem} {t : Nat} (hS : SQ M) (h : gNth sT t = some 8) : fV M t 4 = some (.ref (t + 3)) := (hS.2.2 t (tl_mem h)).1 2 (by decide)
set_option maxRecDepth 100000 in
theorem tl_n5 : ∀ t ∈ fxA, gNth sT (t + 4) = some 12 := by decide +kernel
theorem fx_h5 {t : Nat} (h : gNth sT t = some 8) : gNth sT (t + 4) = some 12 := tl_n5 t (tl_mem h)
theorem fx_l5 {M : Mem} {t : Nat} (hS : SQ M) (h : gNth sT t = some 8) : fV M t 5 = some (.ref (t + 4)) := (hS.2.2 t (tl_mem h)).1 3 (by decide)
set_option maxRecDepth 100000 in
theorem tl_n6 : ∀ t ∈ fxA, gNth sT (t + 5) = some 13 := by decide +kernel
theorem fx_h6 {t : Nat} (h : gNth sT t = some 8) : gNth sT (t + 5) = some 13 := tl_n6 t (tl_mem h)
theorem fx_l6 {M : Mem} {t : Nat} (hS : SQ M) (h : gNth sT t = some 8) : fV M t 6 = some (.ref (t + 5)) := (hS.2.2 t (tl_mem h)).1 4 (by decide)
set_option maxRecDepth 100000 in
theorem tl_n7 : ∀ t ∈ fxA, gNth sT (t + 6) = some 14 := by decide +kernel
theorem fx_h7 {t : Nat} (h : gNth sT t = some 8) : gNth sT (t + 6) = some 14 := tl_n7 t (tl_mem h)
theorem fx_l7 {M : Mem} {t : Nat} (hS : SQ M) (h : gNth sT t = some 8) : fV M t 7 = some (.ref (t + 6)) := (hS.2.2 t (tl_mem h)).1 5 (by decide)
set_option maxRecDepth 100000 in
theorem tl_n8 : ∀ t ∈ fxA, gNth sT (t + 7) = some 15 := by decide +kernel
theorem fx_h8 {t : Nat} (h : gNth sT t = some 8) : gNth sT (t + 7) = some 15 := tl_n8 t (tl_mem h)
theorem fx_l8 {M : Mem} {t : Nat} (hS : SQ M) (h : gNth sT t = some 8) : fV M t 8 = some (.ref (t + 7)) := (hS.2.2 t (tl_mem h)).1 6 (by decide)
set_option maxRecDepth 100000 in
theorem tl_n9 : ∀ t ∈ fxA, gNth sT (t + 8) = some 16 := by decide +kernel
theorem fx_h9 {t : Nat} (h : gNth sT t = some 8) : gNth sT (t + 8) = some 16 := tl_n9 t (tl_mem h)
theorem fx_l9 {M : Mem} {t : Nat} (hS : SQ M) (h : gNth sT t = some 8) : fV M t 9 = some (.ref (t + 8)) := (hS.2.2 t (tl_mem h)).1 7 (by decide)
set_option maxRecDepth 100000 in
theorem tl_n10 : ∀ t ∈ fxA, gNth sT (t + 9) = some 17 := by decide +kernel
theorem fx_h10 {t : Nat} (h : gNth sT t = some 8) : gNth sT (t + 9) = some 17 := tl_n10 t (tl_mem h)
theorem fx_l10 {M : Mem} {t : Nat} (hS : SQ M) (h : gNth sT t = some 8) : fV M t 10 = some (.ref (t + 9)) := (hS.2.2 t (tl_mem h)).2.1
set_option maxRecDepth 100000 in
theorem tl_n12 : ∀ t ∈ fxA, gNth sT (t + 10) = some 18 := by decide +kernel
theorem fx_h12 {t : Nat} (h : gNth sT t = some 8) : gNth sT (t + 10) = some 18 := tl_n12 t (tl_mem h)
theorem fx_l12 {M : Mem} {t : Nat} (hS : SQ M) (h : gNth sT t = some 8) : fV M t 12 = some (.ref (t + 10)) := (hS.2.2 t (tl_mem h)).2.2.1
set_option maxRecDepth 100000 in
theorem tl_n14 : ∀ t ∈ fxA, gNth sT (t + 11) = some 19 := by decide +kernel
theorem fx_h14 {t : Nat} (h : gNth sT t = some 8) : gNth sT (t + 11) = some 19 := tl_n14 t (tl_mem h)
theorem fx_l14 {M : Mem} {t : Nat} (hS : SQ M) (h : gNth sT t = some 8) : fV M t 14 = some (.ref (t + 11)) := (hS.2.2 t (tl_mem h)).2.2.2
