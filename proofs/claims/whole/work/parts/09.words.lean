theorem wd_0 : Cond.methodLink "FilterRows$ByteStore" 1 objectInit ∈ lw_w := lw_in 167 (by decide +kernel) (by decide +kernel)
theorem wd_1 : Cond.instanceMethod objectInit ∈ lw_w := lw_in 55 (by decide +kernel) (by decide +kernel)
set_option maxRecDepth 100000 in
theorem wd_2 : Cond.code objectInit ⟨#[0xb1]⟩ 1 none ∈ lw_w := lw_in 56 (rfl) (by decide +kernel)
theorem wd_3 : Cond.methodLink "FilterRows$ByteStore" 7 Lib.Math.max.name ∈ lw_w := lw_in 168 (by decide +kernel) (by decide +kernel)
theorem wd_4 : Cond.static Lib.Math.max.name ∈ lw_w := lw_in 70 (by decide +kernel) (by decide +kernel)
theorem wd_5 : Cond.initialized "java/lang/Math" ∈ lw_w := lw_in 35 (by decide +kernel) (by decide +kernel)
set_option maxRecDepth 100000 in
theorem wd_6 : Cond.code Lib.Math.max.name Lib.Math.max.code 2 (some .int) ∈ lw_w := lw_in 71 (rfl) (by decide +kernel)
theorem wd_7 : Cond.arrayClass .int ∈ lw_w := lw_in 103 (by decide +kernel) (by decide +kernel)
theorem wd_8 : Cond.fieldLink "FilterRows$ByteStore" 13 "FilterRows$ByteStore" "held" "[I" ∈ lw_w := lw_in 169 (by decide +kernel) (by decide +kernel)
set_option maxRecDepth 100000 in
theorem wd_9 : Cond.code yX0_init cX0_init 2 none ∈ lw_w := lw_in 166 (rfl) (by decide +kernel)
theorem wd_10 : Cond.initialized "FilterRows$ByteStore" ∈ lw_w := lw_in 37 (by decide +kernel) (by decide +kernel)
theorem wd_11 : Cond.instanceMethod yX0_init ∈ lw_w := lw_in 165 (by decide +kernel) (by decide +kernel)
theorem wd_12 : Cond.fieldLink "FilterRows$ByteStore" 19 "FilterRows$ByteStore" "count" "I" ∈ lw_w := lw_in 170 (by decide +kernel) (by decide +kernel)
set_option maxRecDepth 100000 in
theorem wd_13 : Cond.code yX0_hasRoom cX0_hasRoom 2 (some .boolean) ∈ lw_w := lw_in 577 (rfl) (by decide +kernel)
theorem wd_14 : Cond.instanceMethod yX0_hasRoom ∈ lw_w := lw_in 575 (by decide +kernel) (by decide +kernel)
theorem wd_15 : Cond.selects "FilterRows$ByteStore" yX0_hasRoom yX0_hasRoom ∈ lw_w := lw_in 576 (by decide +kernel) (by decide +kernel)
set_option maxRecDepth 100000 in
theorem wd_16 : Cond.code yX0_hasByte cX0_hasByte 2 (some .boolean) ∈ lw_w := lw_in 257 (rfl) (by decide +kernel)
theorem wd_17 : Cond.instanceMethod yX0_hasByte ∈ lw_w := lw_in 255 (by decide +kernel) (by decide +kernel)
theorem wd_18 : Cond.selects "FilterRows$ByteStore" yX0_hasByte yX0_hasByte ∈ lw_w := lw_in 256 (by decide +kernel) (by decide +kernel)
theorem wd_19 : Cond.methodLink "FilterRows$ByteStore" 23 yX0_hasByte ∈ lw_w := lw_in 262 (by decide +kernel) (by decide +kernel)
set_option maxRecDepth 100000 in
theorem wd_20 : Cond.code yX0_byteOf cX0_byteOf 2 (some .int) ∈ lw_w := lw_in 261 (rfl) (by decide +kernel)
theorem wd_21 : Cond.instanceMethod yX0_byteOf ∈ lw_w := lw_in 259 (by decide +kernel) (by decide +kernel)
theorem wd_22 : Cond.selects "FilterRows$ByteStore" yX0_byteOf yX0_byteOf ∈ lw_w := lw_in 260 (by decide +kernel) (by decide +kernel)
set_option maxRecDepth 100000 in
theorem wd_23 : Cond.code yX0_append cX0_append 2 none ∈ lw_w := lw_in 548 (rfl) (by decide +kernel)
theorem wd_24 : Cond.instanceMethod yX0_append ∈ lw_w := lw_in 546 (by decide +kernel) (by decide +kernel)
theorem wd_25 : Cond.selects "FilterRows$ByteStore" yX0_append yX0_append ∈ lw_w := lw_in 547 (by decide +kernel) (by decide +kernel)
set_option maxRecDepth 100000 in
theorem wd_26 : Cond.code yX0_drop cX0_drop 1 none ∈ lw_w := lw_in 309 (rfl) (by decide +kernel)
theorem wd_27 : Cond.instanceMethod yX0_drop ∈ lw_w := lw_in 307 (by decide +kernel) (by decide +kernel)
theorem wd_28 : Cond.selects "FilterRows$ByteStore" yX0_drop yX0_drop ∈ lw_w := lw_in 308 (by decide +kernel) (by decide +kernel)
theorem wd_29 : Cond.methodLink "FilterRows$Palette" 3 objectInit ∈ lw_w := lw_in 182 (by decide +kernel) (by decide +kernel)
theorem wd_30 : Cond.fieldLink "FilterRows$Palette" 9 "FilterRows$Palette" "colours" "[I" ∈ lw_w := lw_in 183 (by decide +kernel) (by decide +kernel)
theorem wd_31 : Cond.fieldLink "FilterRows$Palette" 15 "FilterRows$Palette" "numbers" "[I" ∈ lw_w := lw_in 184 (by decide +kernel) (by decide +kernel)
theorem wd_32 : Cond.arrayClass .boolean ∈ lw_w := lw_in 200 (by decide +kernel) (by decide +kernel)
theorem wd_33 : Cond.fieldLink "FilterRows$Palette" 18 "FilterRows$Palette" "placed" "[Z" ∈ lw_w := lw_in 185 (by decide +kernel) (by decide +kernel)
set_option maxRecDepth 100000 in
theorem wd_34 : Cond.code yX1_init cX1_init 1 none ∈ lw_w := lw_in 181 (rfl) (by decide +kernel)
theorem wd_35 : Cond.initialized "FilterRows$Palette" ∈ lw_w := lw_in 38 (by decide +kernel) (by decide +kernel)
theorem wd_36 : Cond.instanceMethod yX1_init ∈ lw_w := lw_in 180 (by decide +kernel) (by decide +kernel)
theorem wd_37 : Cond.fieldLink "FilterRows$Palette" 22 "FilterRows$Palette" "count" "I" ∈ lw_w := lw_in 186 (by decide +kernel) (by decide +kernel)
theorem wd_38 : Cond.fieldLink "FilterRows$Palette" 29 "FilterRows$Palette" "arranged" "I" ∈ lw_w := lw_in 188 (by decide +kernel) (by decide +kernel)
set_option maxRecDepth 100000 in
theorem wd_39 : Cond.code yX1_forgetOrder cX1_forgetOrder 2 none ∈ lw_w := lw_in 342 (rfl) (by decide +kernel)
theorem wd_40 : Cond.instanceMethod yX1_forgetOrder ∈ lw_w := lw_in 341 (by decide +kernel) (by decide +kernel)
theorem wd_41 : Cond.selects "FilterRows$Palette" yX1_forgetOrder yX1_forgetOrder ∈ lw_w := lw_in 8 (by decide +kernel) (by decide +kernel)
theorem wd_42 : Cond.methodLink "FilterRows$Palette" 26 yX1_forgetOrder ∈ lw_w := lw_in 339 (by decide +kernel) (by decide +kernel)
set_option maxRecDepth 100000 in
theorem wd_43 : Cond.code yX1_append cX1_append 2 (some .int) ∈ lw_w := lw_in 651 (rfl) (by decide +kernel)
theorem wd_44 : Cond.instanceMethod yX1_append ∈ lw_w := lw_in 649 (by decide +kernel) (by decide +kernel)
theorem wd_45 : Cond.selects "FilterRows$Palette" yX1_append yX1_append ∈ lw_w := lw_in 650 (by decide +kernel) (by decide +kernel)
set_option maxRecDepth 100000 in
theorem wd_46 : Cond.code yX1_drop cX1_drop 1 none ∈ lw_w := lw_in 338 (rfl) (by decide +kernel)
theorem wd_47 : Cond.instanceMethod yX1_drop ∈ lw_w := lw_in 336 (by decide +kernel) (by decide +kernel)
theorem wd_48 : Cond.selects "FilterRows$Palette" yX1_drop yX1_drop ∈ lw_w := lw_in 337 (by decide +kernel) (by decide +kernel)
theorem wd_49 : Cond.constant "FilterRows$Palette" 36 (195076 : Int32) ∈ lw_w := lw_in 668 (by decide +kernel) (by decide +kernel)
set_option maxRecDepth 100000 in
theorem wd_50 : Cond.code yX1_distance cX1_distance 5 (some .int) ∈ lw_w := lw_in 678 (rfl) (by decide +kernel)
theorem wd_51 : Cond.static yX1_distance ∈ lw_w := lw_in 677 (by decide +kernel) (by decide +kernel)
theorem wd_52 : Cond.methodLink "FilterRows$Palette" 44 yX1_distance ∈ lw_w := lw_in 676 (by decide +kernel) (by decide +kernel)
set_option maxRecDepth 100000 in
theorem wd_53 : Cond.code yX1_sumOfParts cX1_sumOfParts 1 (some .int) ∈ lw_w := lw_in 675 (rfl) (by decide +kernel)
theorem wd_54 : Cond.static yX1_sumOfParts ∈ lw_w := lw_in 674 (by decide +kernel) (by decide +kernel)
theorem wd_55 : Cond.methodLink "FilterRows$Palette" 41 yX1_sumOfParts ∈ lw_w := lw_in 673 (by decide +kernel) (by decide +kernel)
set_option maxRecDepth 100000 in
theorem wd_56 : Cond.code yX1_farness cX1_farness 3 (some .int) ∈ lw_w := lw_in 672 (rfl) (by decide +kernel)
theorem wd_57 : Cond.instanceMethod yX1_farness ∈ lw_w := lw_in 671 (by decide +kernel) (by decide +kernel)
theorem wd_58 : Cond.selects "FilterRows$Palette" yX1_farness yX1_farness ∈ lw_w := lw_in 17 (by decide +kernel) (by decide +kernel)
theorem wd_59 : Cond.methodLink "FilterRows$Palette" 37 yX1_farness ∈ lw_w := lw_in 669 (by decide +kernel) (by decide +kernel)
set_option maxRecDepth 100000 in
theorem wd_60 : Cond.code yX1_nextNumber cX1_nextNumber 6 (some .int) ∈ lw_w := lw_in 667 (rfl) (by decide +kernel)
theorem wd_61 : Cond.instanceMethod yX1_nextNumber ∈ lw_w := lw_in 666 (by decide +kernel) (by decide +kernel)
theorem wd_62 : Cond.selects "FilterRows$Palette" yX1_nextNumber yX1_nextNumber ∈ lw_w := lw_in 16 (by decide +kernel) (by decide +kernel)
theorem wd_63 : Cond.methodLink "FilterRows$Palette" 32 yX1_nextNumber ∈ lw_w := lw_in 664 (by decide +kernel) (by decide +kernel)
set_option maxRecDepth 100000 in
theorem wd_64 : Cond.code yX1_numberAt cX1_numberAt 4 (some .int) ∈ lw_w := lw_in 663 (rfl) (by decide +kernel)
theorem wd_65 : Cond.instanceMethod yX1_numberAt ∈ lw_w := lw_in 661 (by decide +kernel) (by decide +kernel)
theorem wd_66 : Cond.selects "FilterRows$Palette" yX1_numberAt yX1_numberAt ∈ lw_w := lw_in 662 (by decide +kernel) (by decide +kernel)
theorem wd_67 : Cond.methodLink "FilterRows$Picture" 1 objectInit ∈ lw_w := lw_in 62 (by decide +kernel) (by decide +kernel)
theorem wd_68 : Cond.methodLink "FilterRows$Picture" 45 Lib.Math.min.name ∈ lw_w := lw_in 66 (by decide +kernel) (by decide +kernel)
theorem wd_69 : Cond.static Lib.Math.min.name ∈ lw_w := lw_in 67 (by decide +kernel) (by decide +kernel)
set_option maxRecDepth 100000 in
theorem wd_70 : Cond.code Lib.Math.min.name Lib.Math.min.code 2 (some .int) ∈ lw_w := lw_in 68 (rfl) (by decide +kernel)
theorem wd_71 : Cond.methodLink "FilterRows$Picture" 26 Lib.Math.max.name ∈ lw_w := lw_in 69 (by decide +kernel) (by decide +kernel)
set_option maxRecDepth 100000 in
theorem wd_72 : Cond.code yX2_within cX2_within 3 (some .int) ∈ lw_w := lw_in 65 (rfl) (by decide +kernel)
theorem wd_73 : Cond.initialized "FilterRows$Picture" ∈ lw_w := lw_in 34 (by decide +kernel) (by decide +kernel)
theorem wd_74 : Cond.static yX2_within ∈ lw_w := lw_in 64 (by decide +kernel) (by decide +kernel)
theorem wd_75 : Cond.methodLink "FilterRows$Picture" 9 yX2_within ∈ lw_w := lw_in 63 (by decide +kernel) (by decide +kernel)
theorem wd_76 : Cond.fieldLink "FilterRows$Picture" 13 "FilterRows$Picture" "width" "I" ∈ lw_w := lw_in 72 (by decide +kernel) (by decide +kernel)
theorem wd_77 : Cond.fieldLink "FilterRows$Picture" 17 "FilterRows$Picture" "height" "I" ∈ lw_w := lw_in 74 (by decide +kernel) (by decide +kernel)
theorem wd_78 : Cond.fieldLink "FilterRows$Picture" 20 "FilterRows$Picture" "channels" "I" ∈ lw_w := lw_in 78 (by decide +kernel) (by decide +kernel)
theorem wd_79 : Cond.fieldLink "FilterRows$Picture" 23 "FilterRows$Picture" "bits" "I" ∈ lw_w := lw_in 76 (by decide +kernel) (by decide +kernel)
theorem wd_80 : Cond.fieldLink "FilterRows$Picture" 32 "FilterRows$Picture" "step" "I" ∈ lw_w := lw_in 81 (by decide +kernel) (by decide +kernel)
theorem wd_81 : Cond.fieldLink "FilterRows$Picture" 35 "FilterRows$Picture" "mostSample" "I" ∈ lw_w := lw_in 82 (by decide +kernel) (by decide +kernel)
theorem wd_82 : Cond.fieldLink "FilterRows$Picture" 38 "FilterRows$Picture" "samples" "[I" ∈ lw_w := lw_in 84 (by decide +kernel) (by decide +kernel)
theorem wd_83 : Cond.fieldLink "FilterRows$Picture" 42 "FilterRows$Picture" "draft" "[I" ∈ lw_w := lw_in 85 (by decide +kernel) (by decide +kernel)
set_option maxRecDepth 100000 in
theorem wd_84 : Cond.code yX2_init cX2_init 5 none ∈ lw_w := lw_in 61 (rfl) (by decide +kernel)
theorem wd_85 : Cond.instanceMethod yX2_init ∈ lw_w := lw_in 60 (by decide +kernel) (by decide +kernel)
set_option maxRecDepth 100000 in
theorem wd_86 : Cond.code yX2_hasSample cX2_hasSample 4 (some .boolean) ∈ lw_w := lw_in 358 (rfl) (by decide +kernel)
theorem wd_87 : Cond.instanceMethod yX2_hasSample ∈ lw_w := lw_in 356 (by decide +kernel) (by decide +kernel)
theorem wd_88 : Cond.selects "FilterRows$Picture" yX2_hasSample yX2_hasSample ∈ lw_w := lw_in 357 (by decide +kernel) (by decide +kernel)
set_option maxRecDepth 100000 in
theorem wd_89 : Cond.code yX2_indexOf cX2_indexOf 4 (some .int) ∈ lw_w := lw_in 301 (rfl) (by decide +kernel)
theorem wd_90 : Cond.instanceMethod yX2_indexOf ∈ lw_w := lw_in 300 (by decide +kernel) (by decide +kernel)
theorem wd_91 : Cond.selects "FilterRows$Picture" yX2_indexOf yX2_indexOf ∈ lw_w := lw_in 5 (by decide +kernel) (by decide +kernel)
theorem wd_92 : Cond.methodLink "FilterRows$Picture" 48 yX2_hasSample ∈ lw_w := lw_in 452 (by decide +kernel) (by decide +kernel)
theorem wd_93 : Cond.methodLink "FilterRows$Picture" 52 yX2_indexOf ∈ lw_w := lw_in 298 (by decide +kernel) (by decide +kernel)
set_option maxRecDepth 100000 in
theorem wd_94 : Cond.code yX2_sampleAt cX2_sampleAt 4 (some .int) ∈ lw_w := lw_in 451 (rfl) (by decide +kernel)
theorem wd_95 : Cond.instanceMethod yX2_sampleAt ∈ lw_w := lw_in 449 (by decide +kernel) (by decide +kernel)
theorem wd_96 : Cond.selects "FilterRows$Picture" yX2_sampleAt yX2_sampleAt ∈ lw_w := lw_in 450 (by decide +kernel) (by decide +kernel)
theorem wd_97 : Cond.methodLink "FilterRows$Picture" 55 yX2_sampleAt ∈ lw_w := lw_in 448 (by decide +kernel) (by decide +kernel)
set_option maxRecDepth 100000 in
theorem wd_98 : Cond.code yX2_replaceSample cX2_replaceSample 6 (some .int) ∈ lw_w := lw_in 447 (rfl) (by decide +kernel)
theorem wd_99 : Cond.instanceMethod yX2_replaceSample ∈ lw_w := lw_in 445 (by decide +kernel) (by decide +kernel)
theorem wd_100 : Cond.selects "FilterRows$Picture" yX2_replaceSample yX2_replaceSample ∈ lw_w := lw_in 446 (by decide +kernel) (by decide +kernel)
set_option maxRecDepth 100000 in
theorem wd_101 : Cond.code yX2_paintAll cX2_paintAll 7 (some .int) ∈ lw_w := lw_in 227 (rfl) (by decide +kernel)
theorem wd_102 : Cond.instanceMethod yX2_paintAll ∈ lw_w := lw_in 225 (by decide +kernel) (by decide +kernel)
theorem wd_103 : Cond.selects "FilterRows$Picture" yX2_paintAll yX2_paintAll ∈ lw_w := lw_in 226 (by decide +kernel) (by decide +kernel)
set_option maxRecDepth 100000 in
theorem wd_104 : Cond.code yJA_fill cJA_fill 4 none ∈ lw_w := lw_in 249 (rfl) (by decide +kernel)
theorem wd_105 : Cond.initialized "java/util/Arrays" ∈ lw_w := lw_in 45 (by decide +kernel) (by decide +kernel)
theorem wd_106 : Cond.static yJA_fill ∈ lw_w := lw_in 248 (by decide +kernel) (by decide +kernel)
theorem wd_107 : Cond.methodLink "FilterRows$Picture" 58 yJA_fill ∈ lw_w := lw_in 329 (by decide +kernel) (by decide +kernel)
set_option maxRecDepth 100000 in
theorem wd_108 : Cond.code yX2_blank cX2_blank 1 none ∈ lw_w := lw_in 328 (rfl) (by decide +kernel)
theorem wd_109 : Cond.instanceMethod yX2_blank ∈ lw_w := lw_in 326 (by decide +kernel) (by decide +kernel)
theorem wd_110 : Cond.selects "FilterRows$Picture" yX2_blank yX2_blank ∈ lw_w := lw_in 327 (by decide +kernel) (by decide +kernel)
set_option maxRecDepth 100000 in
theorem wd_111 : Cond.code yX2_hasAlpha cX2_hasAlpha 1 (some .boolean) ∈ lw_w := lw_in 612 (rfl) (by decide +kernel)
theorem wd_112 : Cond.instanceMethod yX2_hasAlpha ∈ lw_w := lw_in 610 (by decide +kernel) (by decide +kernel)
theorem wd_113 : Cond.selects "FilterRows$Picture" yX2_hasAlpha yX2_hasAlpha ∈ lw_w := lw_in 611 (by decide +kernel) (by decide +kernel)
theorem wd_114 : Cond.methodLink "FilterRows$Picture" 67 yX2_replaceSample ∈ lw_w := lw_in 637 (by decide +kernel) (by decide +kernel)
set_option maxRecDepth 100000 in
theorem wd_115 : Cond.code yX2_blankPlace cX2_blankPlace 5 (some .int) ∈ lw_w := lw_in 636 (rfl) (by decide +kernel)
theorem wd_116 : Cond.instanceMethod yX2_blankPlace ∈ lw_w := lw_in 635 (by decide +kernel) (by decide +kernel)
theorem wd_117 : Cond.selects "FilterRows$Picture" yX2_blankPlace yX2_blankPlace ∈ lw_w := lw_in 15 (by decide +kernel) (by decide +kernel)
theorem wd_118 : Cond.methodLink "FilterRows$Picture" 64 yX2_blankPlace ∈ lw_w := lw_in 633 (by decide +kernel) (by decide +kernel)
set_option maxRecDepth 100000 in
theorem wd_119 : Cond.code yX2_cleanHidden cX2_cleanHidden 4 (some .int) ∈ lw_w := lw_in 632 (rfl) (by decide +kernel)
theorem wd_120 : Cond.instanceMethod yX2_cleanHidden ∈ lw_w := lw_in 630 (by decide +kernel) (by decide +kernel)
theorem wd_121 : Cond.selects "FilterRows$Picture" yX2_cleanHidden yX2_cleanHidden ∈ lw_w := lw_in 631 (by decide +kernel) (by decide +kernel)
set_option maxRecDepth 100000 in
theorem wd_122 : Cond.code yX2_countFrom cX2_countFrom 3 (some .int) ∈ lw_w := lw_in 123 (rfl) (by decide +kernel)
theorem wd_123 : Cond.static yX2_countFrom ∈ lw_w := lw_in 122 (by decide +kernel) (by decide +kernel)
set_option maxRecDepth 100000 in
theorem wd_124 : Cond.code yX4_isPass cX4_isPass 1 (some .boolean) ∈ lw_w := lw_in 116 (rfl) (by decide +kernel)
theorem wd_125 : Cond.initialized "FilterRows" ∈ lw_w := lw_in 33 (by decide +kernel) (by decide +kernel)
theorem wd_126 : Cond.static yX4_isPass ∈ lw_w := lw_in 115 (by decide +kernel) (by decide +kernel)
theorem wd_127 : Cond.fieldLink "FilterRows$Picture" 77 "FilterRows$Picture" "FIRST_COLUMN" "[I" ∈ lw_w := lw_in 128 (by decide +kernel) (by decide +kernel)
theorem wd_128 : Cond.fieldLink "FilterRows$Picture" 80 "FilterRows$Picture" "COLUMN_SHIFT" "[I" ∈ lw_w := lw_in 130 (by decide +kernel) (by decide +kernel)
theorem wd_129 : Cond.methodLink "FilterRows$Picture" 83 yX2_countFrom ∈ lw_w := lw_in 121 (by decide +kernel) (by decide +kernel)
set_option maxRecDepth 100000 in
theorem wd_130 : Cond.code yX2_columnsOf cX2_columnsOf 2 (some .int) ∈ lw_w := lw_in 127 (rfl) (by decide +kernel)
theorem wd_131 : Cond.instanceMethod yX2_columnsOf ∈ lw_w := lw_in 126 (by decide +kernel) (by decide +kernel)
theorem wd_132 : Cond.selects "FilterRows$Picture" yX2_columnsOf yX2_columnsOf ∈ lw_w := lw_in 1 (by decide +kernel) (by decide +kernel)
theorem wd_133 : Cond.fieldLink "FilterRows$Picture" 86 "FilterRows$Picture" "FIRST_ROW" "[I" ∈ lw_w := lw_in 117 (by decide +kernel) (by decide +kernel)
theorem wd_134 : Cond.fieldLink "FilterRows$Picture" 89 "FilterRows$Picture" "ROW_SHIFT" "[I" ∈ lw_w := lw_in 119 (by decide +kernel) (by decide +kernel)
set_option maxRecDepth 100000 in
theorem wd_135 : Cond.code yX2_rowsOf cX2_rowsOf 2 (some .int) ∈ lw_w := lw_in 113 (rfl) (by decide +kernel)
theorem wd_136 : Cond.instanceMethod yX2_rowsOf ∈ lw_w := lw_in 112 (by decide +kernel) (by decide +kernel)
theorem wd_137 : Cond.selects "FilterRows$Picture" yX2_rowsOf yX2_rowsOf ∈ lw_w := lw_in 0 (by decide +kernel) (by decide +kernel)
theorem wd_138 : Cond.methodLink "FilterRows$Picture" 92 yX2_columnsOf ∈ lw_w := lw_in 124 (by decide +kernel) (by decide +kernel)
theorem wd_139 : Cond.methodLink "FilterRows$Picture" 96 yX2_rowsOf ∈ lw_w := lw_in 110 (by decide +kernel) (by decide +kernel)
set_option maxRecDepth 100000 in
theorem wd_140 : Cond.code yX2_placesOf cX2_placesOf 2 (some .int) ∈ lw_w := lw_in 473 (rfl) (by decide +kernel)
theorem wd_141 : Cond.instanceMethod yX2_placesOf ∈ lw_w := lw_in 471 (by decide +kernel) (by decide +kernel)
theorem wd_142 : Cond.selects "FilterRows$Picture" yX2_placesOf yX2_placesOf ∈ lw_w := lw_in 472 (by decide +kernel) (by decide +kernel)
set_option maxRecDepth 100000 in
theorem wd_143 : Cond.code yX2_linesOf cX2_linesOf 2 (some .int) ∈ lw_w := lw_in 253 (rfl) (by decide +kernel)
theorem wd_144 : Cond.instanceMethod yX2_linesOf ∈ lw_w := lw_in 251 (by decide +kernel) (by decide +kernel)
theorem wd_145 : Cond.selects "FilterRows$Picture" yX2_linesOf yX2_linesOf ∈ lw_w := lw_in 252 (by decide +kernel) (by decide +kernel)
set_option maxRecDepth 100000 in
theorem wd_146 : Cond.code yX2_lineBytes cX2_lineBytes 2 (some .int) ∈ lw_w := lw_in 109 (rfl) (by decide +kernel)
theorem wd_147 : Cond.instanceMethod yX2_lineBytes ∈ lw_w := lw_in 107 (by decide +kernel) (by decide +kernel)
theorem wd_148 : Cond.selects "FilterRows$Picture" yX2_lineBytes yX2_lineBytes ∈ lw_w := lw_in 108 (by decide +kernel) (by decide +kernel)
theorem wd_149 : Cond.methodLink "FilterRows$Picture" 99 yX2_linesOf ∈ lw_w := lw_in 292 (by decide +kernel) (by decide +kernel)
set_option maxRecDepth 100000 in
theorem wd_150 : Cond.code yX2_hasLine cX2_hasLine 3 (some .boolean) ∈ lw_w := lw_in 291 (rfl) (by decide +kernel)
theorem wd_151 : Cond.instanceMethod yX2_hasLine ∈ lw_w := lw_in 289 (by decide +kernel) (by decide +kernel)
theorem wd_152 : Cond.selects "FilterRows$Picture" yX2_hasLine yX2_hasLine ∈ lw_w := lw_in 290 (by decide +kernel) (by decide +kernel)
set_option maxRecDepth 100000 in
theorem wd_153 : Cond.code yX2_sampleOfLine cX2_sampleOfLine 6 (some .int) ∈ lw_w := lw_in 297 (rfl) (by decide +kernel)
theorem wd_154 : Cond.instanceMethod yX2_sampleOfLine ∈ lw_w := lw_in 296 (by decide +kernel) (by decide +kernel)
theorem wd_155 : Cond.selects "FilterRows$Picture" yX2_sampleOfLine yX2_sampleOfLine ∈ lw_w := lw_in 4 (by decide +kernel) (by decide +kernel)
theorem wd_156 : Cond.methodLink "FilterRows$Picture" 102 yX2_hasLine ∈ lw_w := lw_in 288 (by decide +kernel) (by decide +kernel)
theorem wd_157 : Cond.methodLink "FilterRows$Picture" 106 yX2_lineBytes ∈ lw_w := lw_in 293 (by decide +kernel) (by decide +kernel)
theorem wd_158 : Cond.methodLink "FilterRows$Picture" 109 yX2_sampleOfLine ∈ lw_w := lw_in 294 (by decide +kernel) (by decide +kernel)
set_option maxRecDepth 100000 in
theorem wd_159 : Cond.code yX2_packSample cX2_packSample 5 none ∈ lw_w := lw_in 496 (rfl) (by decide +kernel)
theorem wd_160 : Cond.instanceMethod yX2_packSample ∈ lw_w := lw_in 495 (by decide +kernel) (by decide +kernel)
theorem wd_161 : Cond.selects "FilterRows$Picture" yX2_packSample yX2_packSample ∈ lw_w := lw_in 10 (by decide +kernel) (by decide +kernel)
theorem wd_162 : Cond.methodLink "FilterRows$Picture" 112 yX2_packSample ∈ lw_w := lw_in 493 (by decide +kernel) (by decide +kernel)
set_option maxRecDepth 100000 in
theorem wd_163 : Cond.code yX2_packLine cX2_packLine 9 none ∈ lw_w := lw_in 492 (rfl) (by decide +kernel)
theorem wd_164 : Cond.instanceMethod yX2_packLine ∈ lw_w := lw_in 490 (by decide +kernel) (by decide +kernel)
theorem wd_165 : Cond.selects "FilterRows$Picture" yX2_packLine yX2_packLine ∈ lw_w := lw_in 491 (by decide +kernel) (by decide +kernel)
set_option maxRecDepth 100000 in
theorem wd_166 : Cond.code yX2_unpackSample cX2_unpackSample 4 (some .int) ∈ lw_w := lw_in 305 (rfl) (by decide +kernel)
theorem wd_167 : Cond.instanceMethod yX2_unpackSample ∈ lw_w := lw_in 304 (by decide +kernel) (by decide +kernel)
theorem wd_168 : Cond.selects "FilterRows$Picture" yX2_unpackSample yX2_unpackSample ∈ lw_w := lw_in 6 (by decide +kernel) (by decide +kernel)
theorem wd_169 : Cond.methodLink "FilterRows$Picture" 116 yX2_unpackSample ∈ lw_w := lw_in 302 (by decide +kernel) (by decide +kernel)
set_option maxRecDepth 100000 in
theorem wd_170 : Cond.code yX2_unpackDraft cX2_unpackDraft 9 none ∈ lw_w := lw_in 287 (rfl) (by decide +kernel)
theorem wd_171 : Cond.instanceMethod yX2_unpackDraft ∈ lw_w := lw_in 285 (by decide +kernel) (by decide +kernel)
theorem wd_172 : Cond.selects "FilterRows$Picture" yX2_unpackDraft yX2_unpackDraft ∈ lw_w := lw_in 286 (by decide +kernel) (by decide +kernel)
theorem wd_173 : Cond.methodLink "FilterRows$Picture" 120 arraycopyName ∈ lw_w := lw_in 314 (by decide +kernel) (by decide +kernel)
theorem wd_174 : Cond.native arraycopyName ∈ lw_w := lw_in 316 (by decide +kernel) (by decide +kernel)
theorem wd_175 : Cond.static arraycopyName ∈ lw_w := lw_in 315 (by decide +kernel) (by decide +kernel)
theorem wd_176 : Cond.initialized "java/lang/System" ∈ lw_w := lw_in 47 (by decide +kernel) (by decide +kernel)
set_option maxRecDepth 100000 in
theorem wd_177 : Cond.code yX2_takeDraft cX2_takeDraft 1 none ∈ lw_w := lw_in 313 (rfl) (by decide +kernel)
theorem wd_178 : Cond.instanceMethod yX2_takeDraft ∈ lw_w := lw_in 311 (by decide +kernel) (by decide +kernel)
theorem wd_179 : Cond.selects "FilterRows$Picture" yX2_takeDraft yX2_takeDraft ∈ lw_w := lw_in 312 (by decide +kernel) (by decide +kernel)
theorem wd_180 : Cond.methodLink "FilterRows$Rows" 3 objectInit ∈ lw_w := lw_in 135 (by decide +kernel) (by decide +kernel)
theorem wd_181 : Cond.fieldLink "FilterRows$Rows" 9 "FilterRows$Rows" "seen" "[I" ∈ lw_w := lw_in 138 (by decide +kernel) (by decide +kernel)
theorem wd_182 : Cond.fieldLink "FilterRows$Rows" 15 "FilterRows$Rows" "step" "I" ∈ lw_w := lw_in 137 (by decide +kernel) (by decide +kernel)
theorem wd_183 : Cond.methodLink "FilterRows$Rows" 19 Lib.Math.max.name ∈ lw_w := lw_in 136 (by decide +kernel) (by decide +kernel)
theorem wd_184 : Cond.fieldLink "FilterRows$Rows" 25 "FilterRows$Rows" "rests" "[I" ∈ lw_w := lw_in 140 (by decide +kernel) (by decide +kernel)
theorem wd_185 : Cond.fieldLink "FilterRows$Rows" 28 "FilterRows$Rows" "current" "[I" ∈ lw_w := lw_in 142 (by decide +kernel) (by decide +kernel)
theorem wd_186 : Cond.fieldLink "FilterRows$Rows" 31 "FilterRows$Rows" "above" "[I" ∈ lw_w := lw_in 144 (by decide +kernel) (by decide +kernel)
set_option maxRecDepth 100000 in
theorem wd_187 : Cond.code yX3_init cX3_init 3 none ∈ lw_w := lw_in 134 (rfl) (by decide +kernel)
theorem wd_188 : Cond.initialized "FilterRows$Rows" ∈ lw_w := lw_in 36 (by decide +kernel) (by decide +kernel)
theorem wd_189 : Cond.instanceMethod yX3_init ∈ lw_w := lw_in 133 (by decide +kernel) (by decide +kernel)
theorem wd_190 : Cond.methodLink "FilterRows$Rows" 34 yX2_lineBytes ∈ lw_w := lw_in 488 (by decide +kernel) (by decide +kernel)
theorem wd_191 : Cond.methodLink "FilterRows$Rows" 40 Lib.Math.min.name ∈ lw_w := lw_in 246 (by decide +kernel) (by decide +kernel)
theorem wd_192 : Cond.fieldLink "FilterRows$Rows" 43 "FilterRows$Rows" "length" "I" ∈ lw_w := lw_in 145 (by decide +kernel) (by decide +kernel)
theorem wd_193 : Cond.methodLink "FilterRows$Rows" 46 yX2_packLine ∈ lw_w := lw_in 489 (by decide +kernel) (by decide +kernel)
set_option maxRecDepth 100000 in
theorem wd_194 : Cond.code yX3_takeLine cX3_takeLine 4 none ∈ lw_w := lw_in 487 (rfl) (by decide +kernel)
theorem wd_195 : Cond.instanceMethod yX3_takeLine ∈ lw_w := lw_in 485 (by decide +kernel) (by decide +kernel)
theorem wd_196 : Cond.selects "FilterRows$Rows" yX3_takeLine yX3_takeLine ∈ lw_w := lw_in 486 (by decide +kernel) (by decide +kernel)
theorem wd_197 : Cond.methodLink "FilterRows$Rows" 50 yJA_fill ∈ lw_w := lw_in 247 (by decide +kernel) (by decide +kernel)
set_option maxRecDepth 100000 in
theorem wd_198 : Cond.code yX3_startPass cX3_startPass 2 none ∈ lw_w := lw_in 245 (rfl) (by decide +kernel)
theorem wd_199 : Cond.instanceMethod yX3_startPass ∈ lw_w := lw_in 243 (by decide +kernel) (by decide +kernel)
theorem wd_200 : Cond.selects "FilterRows$Rows" yX3_startPass yX3_startPass ∈ lw_w := lw_in 244 (by decide +kernel) (by decide +kernel)
theorem wd_201 : Cond.methodLink "FilterRows$Rows" 56 yX0_byteOf ∈ lw_w := lw_in 270 (by decide +kernel) (by decide +kernel)
set_option maxRecDepth 100000 in
theorem wd_202 : Cond.code yX3_byteOr0 cX3_byteOr0 2 (some .int) ∈ lw_w := lw_in 277 (rfl) (by decide +kernel)
theorem wd_203 : Cond.static yX3_byteOr0 ∈ lw_w := lw_in 276 (by decide +kernel) (by decide +kernel)
theorem wd_204 : Cond.methodLink "FilterRows$Rows" 84 yX3_byteOr0 ∈ lw_w := lw_in 275 (by decide +kernel) (by decide +kernel)
theorem wd_205 : Cond.methodLink "FilterRows$Rows" 92 Lib.Math.abs.name ∈ lw_w := lw_in 281 (by decide +kernel) (by decide +kernel)
theorem wd_206 : Cond.static Lib.Math.abs.name ∈ lw_w := lw_in 282 (by decide +kernel) (by decide +kernel)
set_option maxRecDepth 100000 in
theorem wd_207 : Cond.code Lib.Math.abs.name Lib.Math.abs.code 1 (some .int) ∈ lw_w := lw_in 283 (rfl) (by decide +kernel)
set_option maxRecDepth 100000 in
theorem wd_208 : Cond.code yX3_nearest cX3_nearest 7 (some .int) ∈ lw_w := lw_in 280 (rfl) (by decide +kernel)
theorem wd_209 : Cond.static yX3_nearest ∈ lw_w := lw_in 279 (by decide +kernel) (by decide +kernel)
theorem wd_210 : Cond.methodLink "FilterRows$Rows" 88 yX3_nearest ∈ lw_w := lw_in 278 (by decide +kernel) (by decide +kernel)
set_option maxRecDepth 100000 in
theorem wd_211 : Cond.code yX3_guess cX3_guess 5 (some .int) ∈ lw_w := lw_in 274 (rfl) (by decide +kernel)
theorem wd_212 : Cond.instanceMethod yX3_guess ∈ lw_w := lw_in 273 (by decide +kernel) (by decide +kernel)
theorem wd_213 : Cond.selects "FilterRows$Rows" yX3_guess yX3_guess ∈ lw_w := lw_in 3 (by decide +kernel) (by decide +kernel)
theorem wd_214 : Cond.methodLink "FilterRows$Rows" 61 yX3_guess ∈ lw_w := lw_in 271 (by decide +kernel) (by decide +kernel)
set_option maxRecDepth 100000 in
theorem wd_215 : Cond.code yX3_restoreLine cX3_restoreLine 6 none ∈ lw_w := lw_in 269 (rfl) (by decide +kernel)
theorem wd_216 : Cond.instanceMethod yX3_restoreLine ∈ lw_w := lw_in 267 (by decide +kernel) (by decide +kernel)
theorem wd_217 : Cond.selects "FilterRows$Rows" yX3_restoreLine yX3_restoreLine ∈ lw_w := lw_in 268 (by decide +kernel) (by decide +kernel)
set_option maxRecDepth 100000 in
theorem wd_218 : Cond.code yX3_filterLine cX3_filterLine 3 none ∈ lw_w := lw_in 500 (rfl) (by decide +kernel)
theorem wd_219 : Cond.instanceMethod yX3_filterLine ∈ lw_w := lw_in 498 (by decide +kernel) (by decide +kernel)
theorem wd_220 : Cond.selects "FilterRows$Rows" yX3_filterLine yX3_filterLine ∈ lw_w := lw_in 499 (by decide +kernel) (by decide +kernel)
theorem wd_221 : Cond.methodLink "FilterRows$Rows" 67 yX3_filterLine ∈ lw_w := lw_in 514 (by decide +kernel) (by decide +kernel)
theorem wd_222 : Cond.fieldLink "FilterRows$Rows" 81 "FilterRows$Rows" "counts" "I" ∈ lw_w := lw_in 139 (by decide +kernel) (by decide +kernel)
set_option maxRecDepth 100000 in
theorem wd_223 : Cond.code yX3_differentRests cX3_differentRests 4 (some .int) ∈ lw_w := lw_in 526 (rfl) (by decide +kernel)
theorem wd_224 : Cond.instanceMethod yX3_differentRests ∈ lw_w := lw_in 525 (by decide +kernel) (by decide +kernel)
theorem wd_225 : Cond.selects "FilterRows$Rows" yX3_differentRests yX3_differentRests ∈ lw_w := lw_in 13 (by decide +kernel) (by decide +kernel)
theorem wd_226 : Cond.methodLink "FilterRows$Rows" 78 yX3_differentRests ∈ lw_w := lw_in 523 (by decide +kernel) (by decide +kernel)
set_option maxRecDepth 100000 in
theorem wd_227 : Cond.code yX3_changesOfRests cX3_changesOfRests 4 (some .int) ∈ lw_w := lw_in 522 (rfl) (by decide +kernel)
theorem wd_228 : Cond.instanceMethod yX3_changesOfRests ∈ lw_w := lw_in 521 (by decide +kernel) (by decide +kernel)
theorem wd_229 : Cond.selects "FilterRows$Rows" yX3_changesOfRests yX3_changesOfRests ∈ lw_w := lw_in 12 (by decide +kernel) (by decide +kernel)
theorem wd_230 : Cond.methodLink "FilterRows$Rows" 75 yX3_changesOfRests ∈ lw_w := lw_in 519 (by decide +kernel) (by decide +kernel)
set_option maxRecDepth 100000 in
theorem wd_231 : Cond.code yX3_sumOfRests cX3_sumOfRests 4 (some .int) ∈ lw_w := lw_in 518 (rfl) (by decide +kernel)
theorem wd_232 : Cond.instanceMethod yX3_sumOfRests ∈ lw_w := lw_in 517 (by decide +kernel) (by decide +kernel)
theorem wd_233 : Cond.selects "FilterRows$Rows" yX3_sumOfRests yX3_sumOfRests ∈ lw_w := lw_in 11 (by decide +kernel) (by decide +kernel)
theorem wd_234 : Cond.methodLink "FilterRows$Rows" 71 yX3_sumOfRests ∈ lw_w := lw_in 515 (by decide +kernel) (by decide +kernel)
set_option maxRecDepth 100000 in
theorem wd_235 : Cond.code yX3_worthOf cX3_worthOf 3 (some .int) ∈ lw_w := lw_in 513 (rfl) (by decide +kernel)
theorem wd_236 : Cond.instanceMethod yX3_worthOf ∈ lw_w := lw_in 511 (by decide +kernel) (by decide +kernel)
theorem wd_237 : Cond.selects "FilterRows$Rows" yX3_worthOf yX3_worthOf ∈ lw_w := lw_in 512 (by decide +kernel) (by decide +kernel)
theorem wd_238 : Cond.methodLink "FilterRows$Rows" 64 yX3_worthOf ∈ lw_w := lw_in 540 (by decide +kernel) (by decide +kernel)
set_option maxRecDepth 100000 in
theorem wd_239 : Cond.code yX3_bestKind cX3_bestKind 6 (some .int) ∈ lw_w := lw_in 539 (rfl) (by decide +kernel)
theorem wd_240 : Cond.instanceMethod yX3_bestKind ∈ lw_w := lw_in 537 (by decide +kernel) (by decide +kernel)
theorem wd_241 : Cond.selects "FilterRows$Rows" yX3_bestKind yX3_bestKind ∈ lw_w := lw_in 538 (by decide +kernel) (by decide +kernel)
theorem wd_242 : Cond.methodLink "FilterRows" 1 objectInit ∈ lw_w := lw_in 54 (by decide +kernel) (by decide +kernel)
theorem wd_243 : Cond.classLink "FilterRows" 7 "FilterRows$Picture" ∈ lw_w := lw_in 57 (by decide +kernel) (by decide +kernel)
theorem wd_244 : Cond.instantiable "FilterRows$Picture" 8 ∈ lw_w := lw_in 58 (by decide +kernel) (by decide +kernel)
theorem wd_245 : Cond.methodLink "FilterRows" 9 yX2_init ∈ lw_w := lw_in 59 (by decide +kernel) (by decide +kernel)
theorem wd_246 : Cond.fieldLink "FilterRows" 12 "FilterRows" "picture" "LFilterRows$Picture;" ∈ lw_w := lw_in 201 (by decide +kernel) (by decide +kernel)
theorem wd_247 : Cond.classLink "FilterRows" 18 "FilterRows$Rows" ∈ lw_w := lw_in 104 (by decide +kernel) (by decide +kernel)
theorem wd_248 : Cond.instantiable "FilterRows$Rows" 7 ∈ lw_w := lw_in 105 (by decide +kernel) (by decide +kernel)
theorem wd_249 : Cond.methodLink "FilterRows" 20 yX2_lineBytes ∈ lw_w := lw_in 106 (by decide +kernel) (by decide +kernel)
theorem wd_250 : Cond.fieldLink "FilterRows" 24 "FilterRows$Picture" "step" "I" ∈ lw_w := lw_in 80 (by decide +kernel) (by decide +kernel)
theorem wd_251 : Cond.methodLink "FilterRows" 28 yX3_init ∈ lw_w := lw_in 132 (by decide +kernel) (by decide +kernel)
theorem wd_252 : Cond.fieldLink "FilterRows" 31 "FilterRows" "rows" "LFilterRows$Rows;" ∈ lw_w := lw_in 202 (by decide +kernel) (by decide +kernel)
theorem wd_253 : Cond.classLink "FilterRows" 35 "FilterRows$ByteStore" ∈ lw_w := lw_in 162 (by decide +kernel) (by decide +kernel)
theorem wd_254 : Cond.instantiable "FilterRows$ByteStore" 2 ∈ lw_w := lw_in 163 (by decide +kernel) (by decide +kernel)
theorem wd_255 : Cond.methodLink "FilterRows" 37 yX0_init ∈ lw_w := lw_in 164 (by decide +kernel) (by decide +kernel)
theorem wd_256 : Cond.fieldLink "FilterRows" 40 "FilterRows" "encoded" "LFilterRows$ByteStore;" ∈ lw_w := lw_in 203 (by decide +kernel) (by decide +kernel)
theorem wd_257 : Cond.fieldLink "FilterRows" 44 "FilterRows" "unread" "LFilterRows$ByteStore;" ∈ lw_w := lw_in 204 (by decide +kernel) (by decide +kernel)
theorem wd_258 : Cond.fieldLink "FilterRows" 47 "FilterRows" "linesByKind" "[I" ∈ lw_w := lw_in 205 (by decide +kernel) (by decide +kernel)
theorem wd_259 : Cond.classLink "FilterRows" 51 "FilterRows$Palette" ∈ lw_w := lw_in 177 (by decide +kernel) (by decide +kernel)
theorem wd_260 : Cond.instantiable "FilterRows$Palette" 5 ∈ lw_w := lw_in 178 (by decide +kernel) (by decide +kernel)
theorem wd_261 : Cond.fieldLink "FilterRows" 54 "FilterRows" "palette" "LFilterRows$Palette;" ∈ lw_w := lw_in 206 (by decide +kernel) (by decide +kernel)
set_option maxRecDepth 100000 in
theorem wd_262 : Cond.code yX4_init cX4_init 5 none ∈ lw_w := lw_in 53 (rfl) (by decide +kernel)
theorem wd_263 : Cond.instanceMethod yX4_init ∈ lw_w := lw_in 52 (by decide +kernel) (by decide +kernel)
theorem wd_264 : Cond.methodLink "FilterRows" 58 yX2_hasSample ∈ lw_w := lw_in 355 (by decide +kernel) (by decide +kernel)
theorem wd_265 : Cond.fieldLink "FilterRows" 69 "FilterRows$Picture" "mostSample" "I" ∈ lw_w := lw_in 83 (by decide +kernel) (by decide +kernel)
theorem wd_266 : Cond.methodLink "FilterRows" 77 yX2_replaceSample ∈ lw_w := lw_in 444 (by decide +kernel) (by decide +kernel)
theorem wd_267 : Cond.classLink "FilterRows" 72 "java/lang/IllegalArgumentException" ∈ lw_w := lw_in 428 (by decide +kernel) (by decide +kernel)
theorem wd_268 : Cond.instantiable "java/lang/IllegalArgumentException" 6 ∈ lw_w := lw_in 429 (by decide +kernel) (by decide +kernel)
theorem wd_269 : Cond.initialized "java/lang/IllegalArgumentException" ∈ lw_w := lw_in 44 (by decide +kernel) (by decide +kernel)
theorem wd_270 : Cond.classLink "FilterRows" 62 "java/lang/IndexOutOfBoundsException" ∈ lw_w := lw_in 359 (by decide +kernel) (by decide +kernel)
theorem wd_271 : Cond.instantiable "java/lang/IndexOutOfBoundsException" 6 ∈ lw_w := lw_in 360 (by decide +kernel) (by decide +kernel)
theorem wd_272 : Cond.initialized "java/lang/IndexOutOfBoundsException" ∈ lw_w := lw_in 43 (by decide +kernel) (by decide +kernel)
set_option maxRecDepth 100000 in
theorem wd_273 : Cond.code yX4_put cX4_put 5 (some .int) ∈ lw_w := lw_in 354 (rfl) (by decide +kernel)
theorem wd_274 : Cond.instanceMethod yX4_put ∈ lw_w := lw_in 352 (by decide +kernel) (by decide +kernel)
theorem wd_275 : Cond.selects "FilterRows" yX4_put yX4_put ∈ lw_w := lw_in 353 (by decide +kernel) (by decide +kernel)
theorem wd_276 : Cond.methodLink "FilterRows" 81 yX2_paintAll ∈ lw_w := lw_in 224 (by decide +kernel) (by decide +kernel)
set_option maxRecDepth 100000 in
theorem wd_277 : Cond.code yX4_paint cX4_paint 3 (some .int) ∈ lw_w := lw_in 223 (rfl) (by decide +kernel)
theorem wd_278 : Cond.instanceMethod yX4_paint ∈ lw_w := lw_in 221 (by decide +kernel) (by decide +kernel)
theorem wd_279 : Cond.selects "FilterRows" yX4_paint yX4_paint ∈ lw_w := lw_in 222 (by decide +kernel) (by decide +kernel)
theorem wd_280 : Cond.methodLink "FilterRows" 85 yX2_sampleAt ∈ lw_w := lw_in 460 (by decide +kernel) (by decide +kernel)
set_option maxRecDepth 100000 in
theorem wd_281 : Cond.code yX4_at cX4_at 4 (some .int) ∈ lw_w := lw_in 459 (rfl) (by decide +kernel)
theorem wd_282 : Cond.instanceMethod yX4_at ∈ lw_w := lw_in 457 (by decide +kernel) (by decide +kernel)
theorem wd_283 : Cond.selects "FilterRows" yX4_at yX4_at ∈ lw_w := lw_in 458 (by decide +kernel) (by decide +kernel)
theorem wd_284 : Cond.methodLink "FilterRows" 89 yX4_isPass ∈ lw_w := lw_in 468 (by decide +kernel) (by decide +kernel)
theorem wd_285 : Cond.methodLink "FilterRows" 98 yX2_placesOf ∈ lw_w := lw_in 470 (by decide +kernel) (by decide +kernel)
theorem wd_286 : Cond.methodLink "FilterRows" 95 yX2_linesOf ∈ lw_w := lw_in 250 (by decide +kernel) (by decide +kernel)
set_option maxRecDepth 100000 in
theorem wd_287 : Cond.code yX4_pass cX4_pass 3 (some .int) ∈ lw_w := lw_in 467 (rfl) (by decide +kernel)
theorem wd_288 : Cond.instanceMethod yX4_pass ∈ lw_w := lw_in 465 (by decide +kernel) (by decide +kernel)
theorem wd_289 : Cond.selects "FilterRows" yX4_pass yX4_pass ∈ lw_w := lw_in 466 (by decide +kernel) (by decide +kernel)
set_option maxRecDepth 100000 in
theorem wd_290 : Cond.code yX4_isKind cX4_isKind 1 (some .boolean) ∈ lw_w := lw_in 265 (rfl) (by decide +kernel)
theorem wd_291 : Cond.static yX4_isKind ∈ lw_w := lw_in 264 (by decide +kernel) (by decide +kernel)
theorem wd_292 : Cond.methodLink "FilterRows" 101 yX4_isKind ∈ lw_w := lw_in 263 (by decide +kernel) (by decide +kernel)
theorem wd_293 : Cond.methodLink "FilterRows" 106 yX2_hasLine ∈ lw_w := lw_in 482 (by decide +kernel) (by decide +kernel)
theorem wd_294 : Cond.methodLink "FilterRows" 112 yX3_takeLine ∈ lw_w := lw_in 484 (by decide +kernel) (by decide +kernel)
theorem wd_295 : Cond.methodLink "FilterRows" 116 yX3_filterLine ∈ lw_w := lw_in 497 (by decide +kernel) (by decide +kernel)
theorem wd_296 : Cond.fieldLink "FilterRows" 119 "FilterRows$Rows" "rests" "[I" ∈ lw_w := lw_in 141 (by decide +kernel) (by decide +kernel)
set_option maxRecDepth 100000 in
theorem wd_297 : Cond.code yX4_filtered cX4_filtered 5 (some .int) ∈ lw_w := lw_in 480 (rfl) (by decide +kernel)
theorem wd_298 : Cond.instanceMethod yX4_filtered ∈ lw_w := lw_in 478 (by decide +kernel) (by decide +kernel)
theorem wd_299 : Cond.selects "FilterRows" yX4_filtered yX4_filtered ∈ lw_w := lw_in 479 (by decide +kernel) (by decide +kernel)
theorem wd_300 : Cond.methodLink "FilterRows" 126 yX3_worthOf ∈ lw_w := lw_in 510 (by decide +kernel) (by decide +kernel)
set_option maxRecDepth 100000 in
theorem wd_301 : Cond.code yX4_worth cX4_worth 5 (some .int) ∈ lw_w := lw_in 507 (rfl) (by decide +kernel)
theorem wd_302 : Cond.instanceMethod yX4_worth ∈ lw_w := lw_in 505 (by decide +kernel) (by decide +kernel)
theorem wd_303 : Cond.selects "FilterRows" yX4_worth yX4_worth ∈ lw_w := lw_in 506 (by decide +kernel) (by decide +kernel)
theorem wd_304 : Cond.methodLink "FilterRows" 177 yX0_drop ∈ lw_w := lw_in 306 (by decide +kernel) (by decide +kernel)
theorem wd_305 : Cond.methodLink "FilterRows" 225 yJA_fill ∈ lw_w := lw_in 334 (by decide +kernel) (by decide +kernel)
set_option maxRecDepth 100000 in
theorem wd_306 : Cond.code yX4_forgetEncoded cX4_forgetEncoded 1 none ∈ lw_w := lw_in 333 (rfl) (by decide +kernel)
theorem wd_307 : Cond.instanceMethod yX4_forgetEncoded ∈ lw_w := lw_in 332 (by decide +kernel) (by decide +kernel)
theorem wd_308 : Cond.selects "FilterRows" yX4_forgetEncoded yX4_forgetEncoded ∈ lw_w := lw_in 7 (by decide +kernel) (by decide +kernel)
theorem wd_309 : Cond.methodLink "FilterRows" 131 yX4_forgetEncoded ∈ lw_w := lw_in 330 (by decide +kernel) (by decide +kernel)
set_option maxRecDepth 100000 in
theorem wd_310 : Cond.code yX4_firstPass cX4_firstPass 1 (some .int) ∈ lw_w := lw_in 238 (rfl) (by decide +kernel)
theorem wd_311 : Cond.static yX4_firstPass ∈ lw_w := lw_in 237 (by decide +kernel) (by decide +kernel)
theorem wd_312 : Cond.methodLink "FilterRows" 134 yX4_firstPass ∈ lw_w := lw_in 236 (by decide +kernel) (by decide +kernel)
set_option maxRecDepth 100000 in
theorem wd_313 : Cond.code yX4_lastPass cX4_lastPass 1 (some .int) ∈ lw_w := lw_in 241 (rfl) (by decide +kernel)
theorem wd_314 : Cond.static yX4_lastPass ∈ lw_w := lw_in 240 (by decide +kernel) (by decide +kernel)
theorem wd_315 : Cond.methodLink "FilterRows" 138 yX4_lastPass ∈ lw_w := lw_in 239 (by decide +kernel) (by decide +kernel)
theorem wd_316 : Cond.constant "FilterRows" 141 (1103515245 : Int32) ∈ lw_w := lw_in 535 (by decide +kernel) (by decide +kernel)
theorem wd_317 : Cond.methodLink "FilterRows" 171 yX0_append ∈ lw_w := lw_in 545 (by decide +kernel) (by decide +kernel)
theorem wd_318 : Cond.fieldLink "FilterRows" 231 "FilterRows$Rows" "length" "I" ∈ lw_w := lw_in 146 (by decide +kernel) (by decide +kernel)
set_option maxRecDepth 100000 in
theorem wd_319 : Cond.code yX4_appendLine cX4_appendLine 3 none ∈ lw_w := lw_in 544 (rfl) (by decide +kernel)
theorem wd_320 : Cond.instanceMethod yX4_appendLine ∈ lw_w := lw_in 543 (by decide +kernel) (by decide +kernel)
theorem wd_321 : Cond.selects "FilterRows" yX4_appendLine yX4_appendLine ∈ lw_w := lw_in 14 (by decide +kernel) (by decide +kernel)
theorem wd_322 : Cond.methodLink "FilterRows" 145 yX4_appendLine ∈ lw_w := lw_in 541 (by decide +kernel) (by decide +kernel)
theorem wd_323 : Cond.methodLink "FilterRows" 142 yX3_bestKind ∈ lw_w := lw_in 536 (by decide +kernel) (by decide +kernel)
theorem wd_324 : Cond.fieldLink "FilterRows" 148 "FilterRows$ByteStore" "count" "I" ∈ lw_w := lw_in 171 (by decide +kernel) (by decide +kernel)
set_option maxRecDepth 100000 in
theorem wd_325 : Cond.code yX4_encode cX4_encode 8 (some .int) ∈ lw_w := lw_in 533 (rfl) (by decide +kernel)
theorem wd_326 : Cond.instanceMethod yX4_encode ∈ lw_w := lw_in 531 (by decide +kernel) (by decide +kernel)
theorem wd_327 : Cond.selects "FilterRows" yX4_encode yX4_encode ∈ lw_w := lw_in 532 (by decide +kernel) (by decide +kernel)
theorem wd_328 : Cond.methodLink "FilterRows" 151 yX0_hasByte ∈ lw_w := lw_in 254 (by decide +kernel) (by decide +kernel)
theorem wd_329 : Cond.methodLink "FilterRows" 156 yX0_byteOf ∈ lw_w := lw_in 258 (by decide +kernel) (by decide +kernel)
set_option maxRecDepth 100000 in
theorem wd_330 : Cond.code yX4_byteAt cX4_byteAt 2 (some .int) ∈ lw_w := lw_in 555 (rfl) (by decide +kernel)
theorem wd_331 : Cond.instanceMethod yX4_byteAt ∈ lw_w := lw_in 553 (by decide +kernel) (by decide +kernel)
theorem wd_332 : Cond.selects "FilterRows" yX4_byteAt yX4_byteAt ∈ lw_w := lw_in 554 (by decide +kernel) (by decide +kernel)
set_option maxRecDepth 100000 in
theorem wd_333 : Cond.code yX4_chosen cX4_chosen 2 (some .int) ∈ lw_w := lw_in 563 (rfl) (by decide +kernel)
theorem wd_334 : Cond.instanceMethod yX4_chosen ∈ lw_w := lw_in 561 (by decide +kernel) (by decide +kernel)
theorem wd_335 : Cond.selects "FilterRows" yX4_chosen yX4_chosen ∈ lw_w := lw_in 562 (by decide +kernel) (by decide +kernel)
theorem wd_336 : Cond.methodLink "FilterRows" 163 yX0_hasRoom ∈ lw_w := lw_in 574 (by decide +kernel) (by decide +kernel)
theorem wd_337 : Cond.classLink "FilterRows" 166 "java/lang/UnsupportedOperationException" ∈ lw_w := lw_in 578 (by decide +kernel) (by decide +kernel)
theorem wd_338 : Cond.instantiable "java/lang/UnsupportedOperationException" 6 ∈ lw_w := lw_in 579 (by decide +kernel) (by decide +kernel)
theorem wd_339 : Cond.initialized "java/lang/UnsupportedOperationException" ∈ lw_w := lw_in 46 (by decide +kernel) (by decide +kernel)
set_option maxRecDepth 100000 in
theorem wd_340 : Cond.code yX4_feed cX4_feed 2 (some .int) ∈ lw_w := lw_in 572 (rfl) (by decide +kernel)
theorem wd_341 : Cond.instanceMethod yX4_feed ∈ lw_w := lw_in 570 (by decide +kernel) (by decide +kernel)
theorem wd_342 : Cond.selects "FilterRows" yX4_feed yX4_feed ∈ lw_w := lw_in 571 (by decide +kernel) (by decide +kernel)
set_option maxRecDepth 100000 in
theorem wd_343 : Cond.code yX4_passOn cX4_passOn 2 (some .int) ∈ lw_w := lw_in 600 (rfl) (by decide +kernel)
theorem wd_344 : Cond.instanceMethod yX4_passOn ∈ lw_w := lw_in 598 (by decide +kernel) (by decide +kernel)
theorem wd_345 : Cond.selects "FilterRows" yX4_passOn yX4_passOn ∈ lw_w := lw_in 599 (by decide +kernel) (by decide +kernel)
theorem wd_346 : Cond.methodLink "FilterRows" 234 yX3_startPass ∈ lw_w := lw_in 242 (by decide +kernel) (by decide +kernel)
theorem wd_347 : Cond.methodLink "FilterRows" 237 yX3_restoreLine ∈ lw_w := lw_in 266 (by decide +kernel) (by decide +kernel)
theorem wd_348 : Cond.fieldLink "FilterRows" 241 "FilterRows$Rows" "current" "[I" ∈ lw_w := lw_in 143 (by decide +kernel) (by decide +kernel)
theorem wd_349 : Cond.methodLink "FilterRows" 244 yX2_unpackDraft ∈ lw_w := lw_in 284 (by decide +kernel) (by decide +kernel)
set_option maxRecDepth 100000 in
theorem wd_350 : Cond.code yX4_readDraft cX4_readDraft 6 (some .int) ∈ lw_w := lw_in 235 (rfl) (by decide +kernel)
theorem wd_351 : Cond.instanceMethod yX4_readDraft ∈ lw_w := lw_in 234 (by decide +kernel) (by decide +kernel)
theorem wd_352 : Cond.selects "FilterRows" yX4_readDraft yX4_readDraft ∈ lw_w := lw_in 2 (by decide +kernel) (by decide +kernel)
theorem wd_353 : Cond.methodLink "FilterRows" 174 yX4_readDraft ∈ lw_w := lw_in 232 (by decide +kernel) (by decide +kernel)
theorem wd_354 : Cond.methodLink "FilterRows" 180 yX2_takeDraft ∈ lw_w := lw_in 310 (by decide +kernel) (by decide +kernel)
set_option maxRecDepth 100000 in
theorem wd_355 : Cond.code yX4_decode cX4_decode 3 (some .int) ∈ lw_w := lw_in 231 (rfl) (by decide +kernel)
theorem wd_356 : Cond.instanceMethod yX4_decode ∈ lw_w := lw_in 229 (by decide +kernel) (by decide +kernel)
theorem wd_357 : Cond.selects "FilterRows" yX4_decode yX4_decode ∈ lw_w := lw_in 230 (by decide +kernel) (by decide +kernel)
theorem wd_358 : Cond.methodLink "FilterRows" 183 yX2_hasAlpha ∈ lw_w := lw_in 609 (by decide +kernel) (by decide +kernel)
theorem wd_359 : Cond.methodLink "FilterRows" 192 yX2_cleanHidden ∈ lw_w := lw_in 629 (by decide +kernel) (by decide +kernel)
theorem wd_360 : Cond.classLink "FilterRows" 187 "java/lang/IllegalStateException" ∈ lw_w := lw_in 613 (by decide +kernel) (by decide +kernel)
theorem wd_361 : Cond.instantiable "java/lang/IllegalStateException" 6 ∈ lw_w := lw_in 614 (by decide +kernel) (by decide +kernel)
theorem wd_362 : Cond.initialized "java/lang/IllegalStateException" ∈ lw_w := lw_in 48 (by decide +kernel) (by decide +kernel)
set_option maxRecDepth 100000 in
theorem wd_363 : Cond.code yX4_clean cX4_clean 1 (some .int) ∈ lw_w := lw_in 608 (rfl) (by decide +kernel)
theorem wd_364 : Cond.instanceMethod yX4_clean ∈ lw_w := lw_in 606 (by decide +kernel) (by decide +kernel)
theorem wd_365 : Cond.selects "FilterRows" yX4_clean yX4_clean ∈ lw_w := lw_in 607 (by decide +kernel) (by decide +kernel)
theorem wd_366 : Cond.constant "FilterRows" 196 (16777215 : Int32) ∈ lw_w := lw_in 645 (by decide +kernel) (by decide +kernel)
theorem wd_367 : Cond.fieldLink "FilterRows" 199 "FilterRows$Palette" "count" "I" ∈ lw_w := lw_in 187 (by decide +kernel) (by decide +kernel)
theorem wd_368 : Cond.methodLink "FilterRows" 202 yX1_append ∈ lw_w := lw_in 648 (by decide +kernel) (by decide +kernel)
set_option maxRecDepth 100000 in
theorem wd_369 : Cond.code yX4_colour cX4_colour 2 (some .int) ∈ lw_w := lw_in 644 (rfl) (by decide +kernel)
theorem wd_370 : Cond.instanceMethod yX4_colour ∈ lw_w := lw_in 642 (by decide +kernel) (by decide +kernel)
theorem wd_371 : Cond.selects "FilterRows" yX4_colour yX4_colour ∈ lw_w := lw_in 643 (by decide +kernel) (by decide +kernel)
theorem wd_372 : Cond.methodLink "FilterRows" 206 yX1_numberAt ∈ lw_w := lw_in 660 (by decide +kernel) (by decide +kernel)
set_option maxRecDepth 100000 in
theorem wd_373 : Cond.code yX4_order cX4_order 2 (some .int) ∈ lw_w := lw_in 658 (rfl) (by decide +kernel)
theorem wd_374 : Cond.instanceMethod yX4_order ∈ lw_w := lw_in 656 (by decide +kernel) (by decide +kernel)
theorem wd_375 : Cond.selects "FilterRows" yX4_order yX4_order ∈ lw_w := lw_in 657 (by decide +kernel) (by decide +kernel)
theorem wd_376 : Cond.fieldLink "FilterRows" 209 "FilterRows$Picture" "width" "I" ∈ lw_w := lw_in 73 (by decide +kernel) (by decide +kernel)
theorem wd_377 : Cond.fieldLink "FilterRows" 212 "FilterRows$Picture" "height" "I" ∈ lw_w := lw_in 75 (by decide +kernel) (by decide +kernel)
theorem wd_378 : Cond.fieldLink "FilterRows" 215 "FilterRows$Picture" "bits" "I" ∈ lw_w := lw_in 77 (by decide +kernel) (by decide +kernel)
theorem wd_379 : Cond.fieldLink "FilterRows" 218 "FilterRows$Picture" "channels" "I" ∈ lw_w := lw_in 79 (by decide +kernel) (by decide +kernel)
set_option maxRecDepth 100000 in
theorem wd_380 : Cond.code yX4_told cX4_told 2 (some .int) ∈ lw_w := lw_in 320 (rfl) (by decide +kernel)
theorem wd_381 : Cond.instanceMethod yX4_told ∈ lw_w := lw_in 318 (by decide +kernel) (by decide +kernel)
theorem wd_382 : Cond.selects "FilterRows" yX4_told yX4_told ∈ lw_w := lw_in 319 (by decide +kernel) (by decide +kernel)
theorem wd_383 : Cond.methodLink "FilterRows" 221 yX2_blank ∈ lw_w := lw_in 325 (by decide +kernel) (by decide +kernel)
theorem wd_384 : Cond.methodLink "FilterRows" 224 yX1_drop ∈ lw_w := lw_in 335 (by decide +kernel) (by decide +kernel)
set_option maxRecDepth 100000 in
theorem wd_385 : Cond.code yX4_clear cX4_clear 1 none ∈ lw_w := lw_in 324 (rfl) (by decide +kernel)
theorem wd_386 : Cond.instanceMethod yX4_clear ∈ lw_w := lw_in 322 (by decide +kernel) (by decide +kernel)
theorem wd_387 : Cond.selects "FilterRows" yX4_clear yX4_clear ∈ lw_w := lw_in 323 (by decide +kernel) (by decide +kernel)
theorem wd_388 : Cond.methodLink "FilterRowsModel" 1 objectInit ∈ lw_w := lw_in 684 (by decide +kernel) (by decide +kernel)
theorem wd_389 : Cond.fieldLink "FilterRowsModel" 7 "FilterRowsModel" "firstColumns" "[I" ∈ lw_w := lw_in 694 (by decide +kernel) (by decide +kernel)
theorem wd_390 : Cond.fieldLink "FilterRowsModel" 13 "FilterRowsModel" "columnSteps" "[I" ∈ lw_w := lw_in 695 (by decide +kernel) (by decide +kernel)
theorem wd_391 : Cond.fieldLink "FilterRowsModel" 16 "FilterRowsModel" "firstRows" "[I" ∈ lw_w := lw_in 696 (by decide +kernel) (by decide +kernel)
theorem wd_392 : Cond.fieldLink "FilterRowsModel" 19 "FilterRowsModel" "rowSteps" "[I" ∈ lw_w := lw_in 697 (by decide +kernel) (by decide +kernel)
theorem wd_393 : Cond.fieldLink "FilterRowsModel" 22 "FilterRowsModel" "samples" "[I" ∈ lw_w := lw_in 698 (by decide +kernel) (by decide +kernel)
theorem wd_394 : Cond.fieldLink "FilterRowsModel" 25 "FilterRowsModel" "draft" "[I" ∈ lw_w := lw_in 699 (by decide +kernel) (by decide +kernel)
theorem wd_395 : Cond.fieldLink "FilterRowsModel" 28 "FilterRowsModel" "line" "[I" ∈ lw_w := lw_in 700 (by decide +kernel) (by decide +kernel)
theorem wd_396 : Cond.fieldLink "FilterRowsModel" 31 "FilterRowsModel" "above" "[I" ∈ lw_w := lw_in 701 (by decide +kernel) (by decide +kernel)
theorem wd_397 : Cond.fieldLink "FilterRowsModel" 34 "FilterRowsModel" "rest" "[I" ∈ lw_w := lw_in 702 (by decide +kernel) (by decide +kernel)
theorem wd_398 : Cond.fieldLink "FilterRowsModel" 37 "FilterRowsModel" "seen" "[Z" ∈ lw_w := lw_in 703 (by decide +kernel) (by decide +kernel)
theorem wd_399 : Cond.fieldLink "FilterRowsModel" 41 "FilterRowsModel" "encoded" "[I" ∈ lw_w := lw_in 704 (by decide +kernel) (by decide +kernel)
theorem wd_400 : Cond.fieldLink "FilterRowsModel" 44 "FilterRowsModel" "chosen" "[I" ∈ lw_w := lw_in 706 (by decide +kernel) (by decide +kernel)
theorem wd_401 : Cond.fieldLink "FilterRowsModel" 47 "FilterRowsModel" "feed" "[I" ∈ lw_w := lw_in 707 (by decide +kernel) (by decide +kernel)
theorem wd_402 : Cond.fieldLink "FilterRowsModel" 50 "FilterRowsModel" "colours" "[I" ∈ lw_w := lw_in 709 (by decide +kernel) (by decide +kernel)
set_option maxRecDepth 100000 in
theorem wd_403 : Cond.code yX5_near cX5_near 3 (some .int) ∈ lw_w := lw_in 687 (rfl) (by decide +kernel)
theorem wd_404 : Cond.initialized "FilterRowsModel" ∈ lw_w := lw_in 39 (by decide +kernel) (by decide +kernel)
theorem wd_405 : Cond.static yX5_near ∈ lw_w := lw_in 686 (by decide +kernel) (by decide +kernel)
theorem wd_406 : Cond.methodLink "FilterRowsModel" 53 yX5_near ∈ lw_w := lw_in 685 (by decide +kernel) (by decide +kernel)
theorem wd_407 : Cond.fieldLink "FilterRowsModel" 57 "FilterRowsModel" "width" "I" ∈ lw_w := lw_in 689 (by decide +kernel) (by decide +kernel)
theorem wd_408 : Cond.fieldLink "FilterRowsModel" 61 "FilterRowsModel" "height" "I" ∈ lw_w := lw_in 690 (by decide +kernel) (by decide +kernel)
theorem wd_409 : Cond.fieldLink "FilterRowsModel" 64 "FilterRowsModel" "channels" "I" ∈ lw_w := lw_in 692 (by decide +kernel) (by decide +kernel)
theorem wd_410 : Cond.fieldLink "FilterRowsModel" 67 "FilterRowsModel" "bits" "I" ∈ lw_w := lw_in 691 (by decide +kernel) (by decide +kernel)
theorem wd_411 : Cond.fieldLink "FilterRowsModel" 70 "FilterRowsModel" "step" "I" ∈ lw_w := lw_in 693 (by decide +kernel) (by decide +kernel)
set_option maxRecDepth 100000 in
theorem wd_412 : Cond.code yX5_init cX5_init 7 none ∈ lw_w := lw_in 683 (rfl) (by decide +kernel)
theorem wd_413 : Cond.instanceMethod yX5_init ∈ lw_w := lw_in 682 (by decide +kernel) (by decide +kernel)
theorem wd_414 : Cond.fieldLink "FilterRowsModel" 73 "FilterRowsModel" "thrown" "I" ∈ lw_w := lw_in 688 (by decide +kernel) (by decide +kernel)
set_option maxRecDepth 100000 in
theorem wd_415 : Cond.code yX5_thrown cX5_thrown 1 (some .int) ∈ lw_w := lw_in 761 (rfl) (by decide +kernel)
theorem wd_416 : Cond.instanceMethod yX5_thrown ∈ lw_w := lw_in 759 (by decide +kernel) (by decide +kernel)
theorem wd_417 : Cond.selects "FilterRowsModel" yX5_thrown yX5_thrown ∈ lw_w := lw_in 760 (by decide +kernel) (by decide +kernel)
set_option maxRecDepth 100000 in
theorem wd_418 : Cond.code yX5_in cX5_in 3 (some .boolean) ∈ lw_w := lw_in 772 (rfl) (by decide +kernel)
theorem wd_419 : Cond.static yX5_in ∈ lw_w := lw_in 771 (by decide +kernel) (by decide +kernel)
theorem wd_420 : Cond.methodLink "FilterRowsModel" 76 yX5_in ∈ lw_w := lw_in 770 (by decide +kernel) (by decide +kernel)
set_option maxRecDepth 100000 in
theorem wd_421 : Cond.code yX5_isSample cX5_isSample 4 (some .boolean) ∈ lw_w := lw_in 769 (rfl) (by decide +kernel)
theorem wd_422 : Cond.instanceMethod yX5_isSample ∈ lw_w := lw_in 768 (by decide +kernel) (by decide +kernel)
theorem wd_423 : Cond.selects "FilterRowsModel" yX5_isSample yX5_isSample ∈ lw_w := lw_in 18 (by decide +kernel) (by decide +kernel)
set_option maxRecDepth 100000 in
theorem wd_424 : Cond.code yX5_place cX5_place 2 (some .int) ∈ lw_w := lw_in 775 (rfl) (by decide +kernel)
theorem wd_425 : Cond.static yX5_place ∈ lw_w := lw_in 774 (by decide +kernel) (by decide +kernel)
theorem wd_426 : Cond.methodLink "FilterRowsModel" 80 yX5_isSample ∈ lw_w := lw_in 766 (by decide +kernel) (by decide +kernel)
theorem wd_427 : Cond.methodLink "FilterRowsModel" 83 yX5_place ∈ lw_w := lw_in 773 (by decide +kernel) (by decide +kernel)
set_option maxRecDepth 100000 in
theorem wd_428 : Cond.code yX5_put cX5_put 6 (some .int) ∈ lw_w := lw_in 765 (rfl) (by decide +kernel)
theorem wd_429 : Cond.instanceMethod yX5_put ∈ lw_w := lw_in 763 (by decide +kernel) (by decide +kernel)
theorem wd_430 : Cond.selects "FilterRowsModel" yX5_put yX5_put ∈ lw_w := lw_in 764 (by decide +kernel) (by decide +kernel)
set_option maxRecDepth 100000 in
theorem wd_431 : Cond.code yX5_paint cX5_paint 9 (some .int) ∈ lw_w := lw_in 779 (rfl) (by decide +kernel)
theorem wd_432 : Cond.instanceMethod yX5_paint ∈ lw_w := lw_in 777 (by decide +kernel) (by decide +kernel)
theorem wd_433 : Cond.selects "FilterRowsModel" yX5_paint yX5_paint ∈ lw_w := lw_in 778 (by decide +kernel) (by decide +kernel)
set_option maxRecDepth 100000 in
theorem wd_434 : Cond.code yX5_at cX5_at 4 (some .int) ∈ lw_w := lw_in 783 (rfl) (by decide +kernel)
theorem wd_435 : Cond.instanceMethod yX5_at ∈ lw_w := lw_in 781 (by decide +kernel) (by decide +kernel)
theorem wd_436 : Cond.selects "FilterRowsModel" yX5_at yX5_at ∈ lw_w := lw_in 782 (by decide +kernel) (by decide +kernel)
set_option maxRecDepth 100000 in
theorem wd_437 : Cond.code yX5_wide cX5_wide 2 (some .int) ∈ lw_w := lw_in 795 (rfl) (by decide +kernel)
theorem wd_438 : Cond.instanceMethod yX5_wide ∈ lw_w := lw_in 794 (by decide +kernel) (by decide +kernel)
theorem wd_439 : Cond.selects "FilterRowsModel" yX5_wide yX5_wide ∈ lw_w := lw_in 20 (by decide +kernel) (by decide +kernel)
set_option maxRecDepth 100000 in
theorem wd_440 : Cond.code yX5_high cX5_high 2 (some .int) ∈ lw_w := lw_in 799 (rfl) (by decide +kernel)
theorem wd_441 : Cond.instanceMethod yX5_high ∈ lw_w := lw_in 798 (by decide +kernel) (by decide +kernel)
theorem wd_442 : Cond.selects "FilterRowsModel" yX5_high yX5_high ∈ lw_w := lw_in 21 (by decide +kernel) (by decide +kernel)
theorem wd_443 : Cond.methodLink "FilterRowsModel" 87 yX5_wide ∈ lw_w := lw_in 792 (by decide +kernel) (by decide +kernel)
theorem wd_444 : Cond.methodLink "FilterRowsModel" 91 yX5_high ∈ lw_w := lw_in 796 (by decide +kernel) (by decide +kernel)
set_option maxRecDepth 100000 in
theorem wd_445 : Cond.code yX5_lines cX5_lines 4 (some .int) ∈ lw_w := lw_in 791 (rfl) (by decide +kernel)
theorem wd_446 : Cond.instanceMethod yX5_lines ∈ lw_w := lw_in 790 (by decide +kernel) (by decide +kernel)
theorem wd_447 : Cond.selects "FilterRowsModel" yX5_lines yX5_lines ∈ lw_w := lw_in 19 (by decide +kernel) (by decide +kernel)
theorem wd_448 : Cond.methodLink "FilterRowsModel" 94 yX5_lines ∈ lw_w := lw_in 788 (by decide +kernel) (by decide +kernel)
set_option maxRecDepth 100000 in
theorem wd_449 : Cond.code yX5_bytes cX5_bytes 2 (some .int) ∈ lw_w := lw_in 803 (rfl) (by decide +kernel)
theorem wd_450 : Cond.instanceMethod yX5_bytes ∈ lw_w := lw_in 802 (by decide +kernel) (by decide +kernel)
theorem wd_451 : Cond.selects "FilterRowsModel" yX5_bytes yX5_bytes ∈ lw_w := lw_in 22 (by decide +kernel) (by decide +kernel)
theorem wd_452 : Cond.methodLink "FilterRowsModel" 97 yX5_bytes ∈ lw_w := lw_in 800 (by decide +kernel) (by decide +kernel)
set_option maxRecDepth 100000 in
theorem wd_453 : Cond.code yX5_pass cX5_pass 3 (some .int) ∈ lw_w := lw_in 787 (rfl) (by decide +kernel)
theorem wd_454 : Cond.instanceMethod yX5_pass ∈ lw_w := lw_in 785 (by decide +kernel) (by decide +kernel)
theorem wd_455 : Cond.selects "FilterRowsModel" yX5_pass yX5_pass ∈ lw_w := lw_in 786 (by decide +kernel) (by decide +kernel)
set_option maxRecDepth 100000 in
theorem wd_456 : Cond.code yX5_build cX5_build 11 none ∈ lw_w := lw_in 815 (rfl) (by decide +kernel)
theorem wd_457 : Cond.instanceMethod yX5_build ∈ lw_w := lw_in 814 (by decide +kernel) (by decide +kernel)
theorem wd_458 : Cond.selects "FilterRowsModel" yX5_build yX5_build ∈ lw_w := lw_in 24 (by decide +kernel) (by decide +kernel)
set_option maxRecDepth 100000 in
theorem wd_459 : Cond.code yX5_size cX5_size 1 (some .int) ∈ lw_w := lw_in 829 (rfl) (by decide +kernel)
theorem wd_460 : Cond.static yX5_size ∈ lw_w := lw_in 828 (by decide +kernel) (by decide +kernel)
theorem wd_461 : Cond.methodLink "FilterRowsModel" 100 yX5_size ∈ lw_w := lw_in 827 (by decide +kernel) (by decide +kernel)
set_option maxRecDepth 100000 in
theorem wd_462 : Cond.code yX5_with cX5_with 8 (some .int) ∈ lw_w := lw_in 826 (rfl) (by decide +kernel)
theorem wd_463 : Cond.static yX5_with ∈ lw_w := lw_in 825 (by decide +kernel) (by decide +kernel)
set_option maxRecDepth 100000 in
theorem wd_464 : Cond.code yX5_before cX5_before 3 (some .int) ∈ lw_w := lw_in 823 (rfl) (by decide +kernel)
theorem wd_465 : Cond.instanceMethod yX5_before ∈ lw_w := lw_in 822 (by decide +kernel) (by decide +kernel)
theorem wd_466 : Cond.selects "FilterRowsModel" yX5_before yX5_before ∈ lw_w := lw_in 26 (by decide +kernel) (by decide +kernel)
theorem wd_467 : Cond.methodLink "FilterRowsModel" 103 yX5_before ∈ lw_w := lw_in 820 (by decide +kernel) (by decide +kernel)
theorem wd_468 : Cond.methodLink "FilterRowsModel" 107 yX5_with ∈ lw_w := lw_in 824 (by decide +kernel) (by decide +kernel)
set_option maxRecDepth 100000 in
theorem wd_469 : Cond.code yX5_filter cX5_filter 4 none ∈ lw_w := lw_in 819 (rfl) (by decide +kernel)
theorem wd_470 : Cond.instanceMethod yX5_filter ∈ lw_w := lw_in 818 (by decide +kernel) (by decide +kernel)
theorem wd_471 : Cond.selects "FilterRowsModel" yX5_filter yX5_filter ∈ lw_w := lw_in 25 (by decide +kernel) (by decide +kernel)
theorem wd_472 : Cond.methodLink "FilterRowsModel" 111 yX5_build ∈ lw_w := lw_in 812 (by decide +kernel) (by decide +kernel)
set_option maxRecDepth 100000 in
theorem wd_473 : Cond.code yX5_prepare cX5_prepare 3 none ∈ lw_w := lw_in 811 (rfl) (by decide +kernel)
theorem wd_474 : Cond.instanceMethod yX5_prepare ∈ lw_w := lw_in 810 (by decide +kernel) (by decide +kernel)
theorem wd_475 : Cond.selects "FilterRowsModel" yX5_prepare yX5_prepare ∈ lw_w := lw_in 23 (by decide +kernel) (by decide +kernel)
theorem wd_476 : Cond.methodLink "FilterRowsModel" 115 yX5_prepare ∈ lw_w := lw_in 808 (by decide +kernel) (by decide +kernel)
theorem wd_477 : Cond.methodLink "FilterRowsModel" 119 yX5_filter ∈ lw_w := lw_in 816 (by decide +kernel) (by decide +kernel)
set_option maxRecDepth 100000 in
theorem wd_478 : Cond.code yX5_filtered cX5_filtered 5 (some .int) ∈ lw_w := lw_in 807 (rfl) (by decide +kernel)
theorem wd_479 : Cond.instanceMethod yX5_filtered ∈ lw_w := lw_in 805 (by decide +kernel) (by decide +kernel)
theorem wd_480 : Cond.selects "FilterRowsModel" yX5_filtered yX5_filtered ∈ lw_w := lw_in 806 (by decide +kernel) (by decide +kernel)
set_option maxRecDepth 100000 in
theorem wd_481 : Cond.code yX5_counted cX5_counted 8 (some .int) ∈ lw_w := lw_in 837 (rfl) (by decide +kernel)
theorem wd_482 : Cond.instanceMethod yX5_counted ∈ lw_w := lw_in 836 (by decide +kernel) (by decide +kernel)
theorem wd_483 : Cond.selects "FilterRowsModel" yX5_counted yX5_counted ∈ lw_w := lw_in 27 (by decide +kernel) (by decide +kernel)
theorem wd_484 : Cond.methodLink "FilterRowsModel" 122 yX5_counted ∈ lw_w := lw_in 834 (by decide +kernel) (by decide +kernel)
set_option maxRecDepth 100000 in
theorem wd_485 : Cond.code yX5_worth cX5_worth 5 (some .int) ∈ lw_w := lw_in 833 (rfl) (by decide +kernel)
theorem wd_486 : Cond.instanceMethod yX5_worth ∈ lw_w := lw_in 831 (by decide +kernel) (by decide +kernel)
theorem wd_487 : Cond.selects "FilterRowsModel" yX5_worth yX5_worth ∈ lw_w := lw_in 832 (by decide +kernel) (by decide +kernel)
theorem wd_488 : Cond.constant "FilterRowsModel" 125 (1000000000 : Int32) ∈ lw_w := lw_in 847 (by decide +kernel) (by decide +kernel)
set_option maxRecDepth 100000 in
theorem wd_489 : Cond.code yX5_choose cX5_choose 7 (some .int) ∈ lw_w := lw_in 846 (rfl) (by decide +kernel)
theorem wd_490 : Cond.instanceMethod yX5_choose ∈ lw_w := lw_in 845 (by decide +kernel) (by decide +kernel)
theorem wd_491 : Cond.selects "FilterRowsModel" yX5_choose yX5_choose ∈ lw_w := lw_in 28 (by decide +kernel) (by decide +kernel)
theorem wd_492 : Cond.fieldLink "FilterRowsModel" 126 "FilterRowsModel" "encodedSize" "I" ∈ lw_w := lw_in 705 (by decide +kernel) (by decide +kernel)
theorem wd_493 : Cond.constant "FilterRowsModel" 129 (1103515245 : Int32) ∈ lw_w := lw_in 842 (by decide +kernel) (by decide +kernel)
theorem wd_494 : Cond.methodLink "FilterRowsModel" 130 yX5_choose ∈ lw_w := lw_in 843 (by decide +kernel) (by decide +kernel)
set_option maxRecDepth 100000 in
theorem wd_495 : Cond.code yX5_encode cX5_encode 10 (some .int) ∈ lw_w := lw_in 841 (rfl) (by decide +kernel)
theorem wd_496 : Cond.instanceMethod yX5_encode ∈ lw_w := lw_in 839 (by decide +kernel) (by decide +kernel)
theorem wd_497 : Cond.selects "FilterRowsModel" yX5_encode yX5_encode ∈ lw_w := lw_in 840 (by decide +kernel) (by decide +kernel)
set_option maxRecDepth 100000 in
theorem wd_498 : Cond.code yX5_byteAt cX5_byteAt 2 (some .int) ∈ lw_w := lw_in 851 (rfl) (by decide +kernel)
theorem wd_499 : Cond.instanceMethod yX5_byteAt ∈ lw_w := lw_in 849 (by decide +kernel) (by decide +kernel)
theorem wd_500 : Cond.selects "FilterRowsModel" yX5_byteAt yX5_byteAt ∈ lw_w := lw_in 850 (by decide +kernel) (by decide +kernel)
set_option maxRecDepth 100000 in
theorem wd_501 : Cond.code yX5_chosen cX5_chosen 2 (some .int) ∈ lw_w := lw_in 855 (rfl) (by decide +kernel)
theorem wd_502 : Cond.instanceMethod yX5_chosen ∈ lw_w := lw_in 853 (by decide +kernel) (by decide +kernel)
theorem wd_503 : Cond.selects "FilterRowsModel" yX5_chosen yX5_chosen ∈ lw_w := lw_in 854 (by decide +kernel) (by decide +kernel)
theorem wd_504 : Cond.fieldLink "FilterRowsModel" 133 "FilterRowsModel" "feedSize" "I" ∈ lw_w := lw_in 708 (by decide +kernel) (by decide +kernel)
set_option maxRecDepth 100000 in
theorem wd_505 : Cond.code yX5_feed cX5_feed 2 (some .int) ∈ lw_w := lw_in 859 (rfl) (by decide +kernel)
theorem wd_506 : Cond.instanceMethod yX5_feed ∈ lw_w := lw_in 857 (by decide +kernel) (by decide +kernel)
theorem wd_507 : Cond.selects "FilterRowsModel" yX5_feed yX5_feed ∈ lw_w := lw_in 858 (by decide +kernel) (by decide +kernel)
set_option maxRecDepth 100000 in
theorem wd_508 : Cond.code yX5_passOn cX5_passOn 2 (some .int) ∈ lw_w := lw_in 863 (rfl) (by decide +kernel)
theorem wd_509 : Cond.instanceMethod yX5_passOn ∈ lw_w := lw_in 861 (by decide +kernel) (by decide +kernel)
theorem wd_510 : Cond.selects "FilterRowsModel" yX5_passOn yX5_passOn ∈ lw_w := lw_in 862 (by decide +kernel) (by decide +kernel)
set_option maxRecDepth 100000 in
theorem wd_511 : Cond.code yX5_unpack cX5_unpack 10 none ∈ lw_w := lw_in 871 (rfl) (by decide +kernel)
theorem wd_512 : Cond.instanceMethod yX5_unpack ∈ lw_w := lw_in 870 (by decide +kernel) (by decide +kernel)
theorem wd_513 : Cond.selects "FilterRowsModel" yX5_unpack yX5_unpack ∈ lw_w := lw_in 29 (by decide +kernel) (by decide +kernel)
theorem wd_514 : Cond.methodLink "FilterRowsModel" 136 yX5_unpack ∈ lw_w := lw_in 868 (by decide +kernel) (by decide +kernel)
set_option maxRecDepth 100000 in
theorem wd_515 : Cond.code yX5_decode cX5_decode 10 (some .int) ∈ lw_w := lw_in 867 (rfl) (by decide +kernel)
theorem wd_516 : Cond.instanceMethod yX5_decode ∈ lw_w := lw_in 865 (by decide +kernel) (by decide +kernel)
theorem wd_517 : Cond.selects "FilterRowsModel" yX5_decode yX5_decode ∈ lw_w := lw_in 866 (by decide +kernel) (by decide +kernel)
set_option maxRecDepth 100000 in
theorem wd_518 : Cond.code yX5_clean cX5_clean 6 (some .int) ∈ lw_w := lw_in 875 (rfl) (by decide +kernel)
theorem wd_519 : Cond.instanceMethod yX5_clean ∈ lw_w := lw_in 873 (by decide +kernel) (by decide +kernel)
theorem wd_520 : Cond.selects "FilterRowsModel" yX5_clean yX5_clean ∈ lw_w := lw_in 874 (by decide +kernel) (by decide +kernel)
theorem wd_521 : Cond.constant "FilterRowsModel" 139 (16777215 : Int32) ∈ lw_w := lw_in 880 (by decide +kernel) (by decide +kernel)
theorem wd_522 : Cond.fieldLink "FilterRowsModel" 140 "FilterRowsModel" "colourCount" "I" ∈ lw_w := lw_in 710 (by decide +kernel) (by decide +kernel)
set_option maxRecDepth 100000 in
theorem wd_523 : Cond.code yX5_colour cX5_colour 2 (some .int) ∈ lw_w := lw_in 879 (rfl) (by decide +kernel)
theorem wd_524 : Cond.instanceMethod yX5_colour ∈ lw_w := lw_in 877 (by decide +kernel) (by decide +kernel)
theorem wd_525 : Cond.selects "FilterRowsModel" yX5_colour yX5_colour ∈ lw_w := lw_in 878 (by decide +kernel) (by decide +kernel)
set_option maxRecDepth 100000 in
theorem wd_526 : Cond.code yX5_part cX5_part 3 (some .int) ∈ lw_w := lw_in 892 (rfl) (by decide +kernel)
theorem wd_527 : Cond.instanceMethod yX5_part ∈ lw_w := lw_in 891 (by decide +kernel) (by decide +kernel)
theorem wd_528 : Cond.selects "FilterRowsModel" yX5_part yX5_part ∈ lw_w := lw_in 31 (by decide +kernel) (by decide +kernel)
theorem wd_529 : Cond.methodLink "FilterRowsModel" 143 yX5_part ∈ lw_w := lw_in 889 (by decide +kernel) (by decide +kernel)
set_option maxRecDepth 100000 in
theorem wd_530 : Cond.code yX5_far cX5_far 6 (some .int) ∈ lw_w := lw_in 888 (rfl) (by decide +kernel)
theorem wd_531 : Cond.instanceMethod yX5_far ∈ lw_w := lw_in 887 (by decide +kernel) (by decide +kernel)
theorem wd_532 : Cond.selects "FilterRowsModel" yX5_far yX5_far ∈ lw_w := lw_in 30 (by decide +kernel) (by decide +kernel)
theorem wd_533 : Cond.methodLink "FilterRowsModel" 146 yX5_far ∈ lw_w := lw_in 885 (by decide +kernel) (by decide +kernel)
set_option maxRecDepth 100000 in
theorem wd_534 : Cond.code yX5_order cX5_order 7 (some .int) ∈ lw_w := lw_in 884 (rfl) (by decide +kernel)
theorem wd_535 : Cond.instanceMethod yX5_order ∈ lw_w := lw_in 882 (by decide +kernel) (by decide +kernel)
theorem wd_536 : Cond.selects "FilterRowsModel" yX5_order yX5_order ∈ lw_w := lw_in 883 (by decide +kernel) (by decide +kernel)
set_option maxRecDepth 100000 in
theorem wd_537 : Cond.code yX5_told cX5_told 2 (some .int) ∈ lw_w := lw_in 896 (rfl) (by decide +kernel)
theorem wd_538 : Cond.instanceMethod yX5_told ∈ lw_w := lw_in 894 (by decide +kernel) (by decide +kernel)
theorem wd_539 : Cond.selects "FilterRowsModel" yX5_told yX5_told ∈ lw_w := lw_in 895 (by decide +kernel) (by decide +kernel)
set_option maxRecDepth 100000 in
theorem wd_540 : Cond.code yX5_clear cX5_clear 2 none ∈ lw_w := lw_in 900 (rfl) (by decide +kernel)
theorem wd_541 : Cond.instanceMethod yX5_clear ∈ lw_w := lw_in 898 (by decide +kernel) (by decide +kernel)
theorem wd_542 : Cond.selects "FilterRowsModel" yX5_clear yX5_clear ∈ lw_w := lw_in 899 (by decide +kernel) (by decide +kernel)
theorem kb_X0_init : xwB yX0_init cX0_init 2 none 1 := ⟨wd_9, wd_10, by decide, by decide, by decide +kernel⟩
theorem kv_X0_init : yX0_init.name = "<init>" ∧ Cond.instanceMethod yX0_init ∈ lw_w := ⟨rfl, wd_11⟩
theorem kb_X0_hasRoom : xwB yX0_hasRoom cX0_hasRoom 2 (some .boolean) 1 := ⟨wd_13, wd_10, by decide, by decide, by decide +kernel⟩
theorem kv_X0_hasRoom : xwV yX0_hasRoom := ⟨wd_14, wd_15⟩
theorem kb_X0_hasByte : xwB yX0_hasByte cX0_hasByte 2 (some .boolean) 1 := ⟨wd_16, wd_10, by decide, by decide, by decide +kernel⟩
theorem kv_X0_hasByte : xwV yX0_hasByte := ⟨wd_17, wd_18⟩
theorem kb_X0_byteOf : xwB yX0_byteOf cX0_byteOf 2 (some .int) 1 := ⟨wd_20, wd_10, by decide, by decide, by decide +kernel⟩
theorem kv_X0_byteOf : xwV yX0_byteOf := ⟨wd_21, wd_22⟩
theorem kb_X0_append : xwB yX0_append cX0_append 2 none 1 := ⟨wd_23, wd_10, by decide, by decide, by decide +kernel⟩
theorem kv_X0_append : xwV yX0_append := ⟨wd_24, wd_25⟩
theorem kb_X0_drop : xwB yX0_drop cX0_drop 1 none 0 := ⟨wd_26, wd_10, by decide, by decide, by decide +kernel⟩
theorem kv_X0_drop : xwV yX0_drop := ⟨wd_27, wd_28⟩
theorem kb_X1_init : xwB yX1_init cX1_init 1 none 0 := ⟨wd_34, wd_35, by decide, by decide, by decide +kernel⟩
theorem kv_X1_init : yX1_init.name = "<init>" ∧ Cond.instanceMethod yX1_init ∈ lw_w := ⟨rfl, wd_36⟩
theorem kb_X1_forgetOrder : xwB yX1_forgetOrder cX1_forgetOrder 2 none 0 := ⟨wd_39, wd_35, by decide, by decide, by decide +kernel⟩
theorem kv_X1_forgetOrder : xwV yX1_forgetOrder := ⟨wd_40, wd_41⟩
theorem kb_X1_append : xwB yX1_append cX1_append 2 (some .int) 1 := ⟨wd_43, wd_35, by decide, by decide, by decide +kernel⟩
theorem kv_X1_append : xwV yX1_append := ⟨wd_44, wd_45⟩
theorem kb_X1_drop : xwB yX1_drop cX1_drop 1 none 0 := ⟨wd_46, wd_35, by decide, by decide, by decide +kernel⟩
theorem kv_X1_drop : xwV yX1_drop := ⟨wd_47, wd_48⟩
theorem kb_X1_distance : xwB yX1_distance cX1_distance 5 (some .int) 2 := ⟨wd_50, wd_35, by decide, by decide, by decide +kernel⟩
theorem kv_X1_distance : Cond.static yX1_distance ∈ lw_w := wd_51
theorem kb_X1_sumOfParts : xwB yX1_sumOfParts cX1_sumOfParts 1 (some .int) 1 := ⟨wd_53, wd_35, by decide, by decide, by decide +kernel⟩
theorem kv_X1_sumOfParts : Cond.static yX1_sumOfParts ∈ lw_w := wd_54
theorem kb_X1_farness : xwB yX1_farness cX1_farness 3 (some .int) 2 := ⟨wd_56, wd_35, by decide, by decide, by decide +kernel⟩
theorem kv_X1_farness : xwV yX1_farness := ⟨wd_57, wd_58⟩
theorem kb_X1_nextNumber : xwB yX1_nextNumber cX1_nextNumber 6 (some .int) 1 := ⟨wd_60, wd_35, by decide, by decide, by decide +kernel⟩
theorem kv_X1_nextNumber : xwV yX1_nextNumber := ⟨wd_61, wd_62⟩
theorem kb_X1_numberAt : xwB yX1_numberAt cX1_numberAt 4 (some .int) 1 := ⟨wd_64, wd_35, by decide, by decide, by decide +kernel⟩
theorem kv_X1_numberAt : xwV yX1_numberAt := ⟨wd_65, wd_66⟩
theorem kb_X2_within : xwB yX2_within cX2_within 3 (some .int) 3 := ⟨wd_72, wd_73, by decide, by decide, by decide +kernel⟩
theorem kv_X2_within : Cond.static yX2_within ∈ lw_w := wd_74
theorem kb_X2_init : xwB yX2_init cX2_init 5 none 4 := ⟨wd_84, wd_73, by decide, by decide, by decide +kernel⟩
theorem kv_X2_init : yX2_init.name = "<init>" ∧ Cond.instanceMethod yX2_init ∈ lw_w := ⟨rfl, wd_85⟩
theorem kb_X2_hasSample : xwB yX2_hasSample cX2_hasSample 4 (some .boolean) 3 := ⟨wd_86, wd_73, by decide, by decide, by decide +kernel⟩
theorem kv_X2_hasSample : xwV yX2_hasSample := ⟨wd_87, wd_88⟩
theorem kb_X2_indexOf : xwB yX2_indexOf cX2_indexOf 4 (some .int) 3 := ⟨wd_89, wd_73, by decide, by decide, by decide +kernel⟩
theorem kv_X2_indexOf : xwV yX2_indexOf := ⟨wd_90, wd_91⟩
theorem kb_X2_sampleAt : xwB yX2_sampleAt cX2_sampleAt 4 (some .int) 3 := ⟨wd_94, wd_73, by decide, by decide, by decide +kernel⟩
theorem kv_X2_sampleAt : xwV yX2_sampleAt := ⟨wd_95, wd_96⟩
theorem kb_X2_replaceSample : xwB yX2_replaceSample cX2_replaceSample 6 (some .int) 4 := ⟨wd_98, wd_73, by decide, by decide, by decide +kernel⟩
theorem kv_X2_replaceSample : xwV yX2_replaceSample := ⟨wd_99, wd_100⟩
theorem kb_X2_paintAll : xwB yX2_paintAll cX2_paintAll 7 (some .int) 2 := ⟨wd_101, wd_73, by decide, by decide, by decide +kernel⟩
theorem kv_X2_paintAll : xwV yX2_paintAll := ⟨wd_102, wd_103⟩
theorem kb_JA_fill : xwB yJA_fill cJA_fill 4 none 2 := ⟨wd_104, wd_105, by decide, by decide, by decide +kernel⟩
theorem kv_JA_fill : Cond.static yJA_fill ∈ lw_w := wd_106
theorem kb_X2_blank : xwB yX2_blank cX2_blank 1 none 0 := ⟨wd_108, wd_73, by decide, by decide, by decide +kernel⟩
theorem kv_X2_blank : xwV yX2_blank := ⟨wd_109, wd_110⟩
theorem kb_X2_hasAlpha : xwB yX2_hasAlpha cX2_hasAlpha 1 (some .boolean) 0 := ⟨wd_111, wd_73, by decide, by decide, by decide +kernel⟩
theorem kv_X2_hasAlpha : xwV yX2_hasAlpha := ⟨wd_112, wd_113⟩
theorem kb_X2_blankPlace : xwB yX2_blankPlace cX2_blankPlace 5 (some .int) 2 := ⟨wd_115, wd_73, by decide, by decide, by decide +kernel⟩
theorem kv_X2_blankPlace : xwV yX2_blankPlace := ⟨wd_116, wd_117⟩
theorem kb_X2_cleanHidden : xwB yX2_cleanHidden cX2_cleanHidden 4 (some .int) 0 := ⟨wd_119, wd_73, by decide, by decide, by decide +kernel⟩
theorem kv_X2_cleanHidden : xwV yX2_cleanHidden := ⟨wd_120, wd_121⟩
theorem kb_X2_countFrom : xwB yX2_countFrom cX2_countFrom 3 (some .int) 3 := ⟨wd_122, wd_73, by decide, by decide, by decide +kernel⟩
theorem kv_X2_countFrom : Cond.static yX2_countFrom ∈ lw_w := wd_123
theorem kb_X4_isPass : xwB yX4_isPass cX4_isPass 1 (some .boolean) 1 := ⟨wd_124, wd_125, by decide, by decide, by decide +kernel⟩
theorem kv_X4_isPass : Cond.static yX4_isPass ∈ lw_w := wd_126
theorem kb_X2_columnsOf : xwB yX2_columnsOf cX2_columnsOf 2 (some .int) 1 := ⟨wd_130, wd_73, by decide, by decide, by decide +kernel⟩
theorem kv_X2_columnsOf : xwV yX2_columnsOf := ⟨wd_131, wd_132⟩
theorem kb_X2_rowsOf : xwB yX2_rowsOf cX2_rowsOf 2 (some .int) 1 := ⟨wd_135, wd_73, by decide, by decide, by decide +kernel⟩
theorem kv_X2_rowsOf : xwV yX2_rowsOf := ⟨wd_136, wd_137⟩
theorem kb_X2_placesOf : xwB yX2_placesOf cX2_placesOf 2 (some .int) 1 := ⟨wd_140, wd_73, by decide, by decide, by decide +kernel⟩
theorem kv_X2_placesOf : xwV yX2_placesOf := ⟨wd_141, wd_142⟩
theorem kb_X2_linesOf : xwB yX2_linesOf cX2_linesOf 2 (some .int) 1 := ⟨wd_143, wd_73, by decide, by decide, by decide +kernel⟩
theorem kv_X2_linesOf : xwV yX2_linesOf := ⟨wd_144, wd_145⟩
theorem kb_X2_lineBytes : xwB yX2_lineBytes cX2_lineBytes 2 (some .int) 1 := ⟨wd_146, wd_73, by decide, by decide, by decide +kernel⟩
theorem kv_X2_lineBytes : xwV yX2_lineBytes := ⟨wd_147, wd_148⟩
theorem kb_X2_hasLine : xwB yX2_hasLine cX2_hasLine 3 (some .boolean) 2 := ⟨wd_150, wd_73, by decide, by decide, by decide +kernel⟩
theorem kv_X2_hasLine : xwV yX2_hasLine := ⟨wd_151, wd_152⟩
theorem kb_X2_sampleOfLine : xwB yX2_sampleOfLine cX2_sampleOfLine 6 (some .int) 3 := ⟨wd_153, wd_73, by decide, by decide, by decide +kernel⟩
theorem kv_X2_sampleOfLine : xwV yX2_sampleOfLine := ⟨wd_154, wd_155⟩
theorem kb_X2_packSample : xwB yX2_packSample cX2_packSample 5 none 3 := ⟨wd_159, wd_73, by decide, by decide, by decide +kernel⟩
theorem kv_X2_packSample : xwV yX2_packSample := ⟨wd_160, wd_161⟩
theorem kb_X2_packLine : xwB yX2_packLine cX2_packLine 9 none 3 := ⟨wd_163, wd_73, by decide, by decide, by decide +kernel⟩
theorem kv_X2_packLine : xwV yX2_packLine := ⟨wd_164, wd_165⟩
theorem kb_X2_unpackSample : xwB yX2_unpackSample cX2_unpackSample 4 (some .int) 2 := ⟨wd_166, wd_73, by decide, by decide, by decide +kernel⟩
theorem kv_X2_unpackSample : xwV yX2_unpackSample := ⟨wd_167, wd_168⟩
theorem kb_X2_unpackDraft : xwB yX2_unpackDraft cX2_unpackDraft 9 none 3 := ⟨wd_170, wd_73, by decide, by decide, by decide +kernel⟩
theorem kv_X2_unpackDraft : xwV yX2_unpackDraft := ⟨wd_171, wd_172⟩
theorem kb_X2_takeDraft : xwB yX2_takeDraft cX2_takeDraft 1 none 0 := ⟨wd_177, wd_73, by decide, by decide, by decide +kernel⟩
theorem kv_X2_takeDraft : xwV yX2_takeDraft := ⟨wd_178, wd_179⟩
theorem kb_X3_init : xwB yX3_init cX3_init 3 none 2 := ⟨wd_187, wd_188, by decide, by decide, by decide +kernel⟩
theorem kv_X3_init : yX3_init.name = "<init>" ∧ Cond.instanceMethod yX3_init ∈ lw_w := ⟨rfl, wd_189⟩
theorem kb_X3_takeLine : xwB yX3_takeLine cX3_takeLine 4 none 3 := ⟨wd_194, wd_188, by decide, by decide, by decide +kernel⟩
theorem kv_X3_takeLine : xwV yX3_takeLine := ⟨wd_195, wd_196⟩
theorem kb_X3_startPass : xwB yX3_startPass cX3_startPass 2 none 1 := ⟨wd_198, wd_188, by decide, by decide, by decide +kernel⟩
theorem kv_X3_startPass : xwV yX3_startPass := ⟨wd_199, wd_200⟩
theorem kb_X3_byteOr0 : xwB yX3_byteOr0 cX3_byteOr0 2 (some .int) 2 := ⟨wd_202, wd_188, by decide, by decide, by decide +kernel⟩
theorem kv_X3_byteOr0 : Cond.static yX3_byteOr0 ∈ lw_w := wd_203
theorem kb_X3_nearest : xwB yX3_nearest cX3_nearest 7 (some .int) 3 := ⟨wd_208, wd_188, by decide, by decide, by decide +kernel⟩
theorem kv_X3_nearest : Cond.static yX3_nearest ∈ lw_w := wd_209
theorem kb_X3_guess : xwB yX3_guess cX3_guess 5 (some .int) 2 := ⟨wd_211, wd_188, by decide, by decide, by decide +kernel⟩
theorem kv_X3_guess : xwV yX3_guess := ⟨wd_212, wd_213⟩
theorem kb_X3_restoreLine : xwB yX3_restoreLine cX3_restoreLine 6 none 2 := ⟨wd_215, wd_188, by decide, by decide, by decide +kernel⟩
theorem kv_X3_restoreLine : xwV yX3_restoreLine := ⟨wd_216, wd_217⟩
theorem kb_X3_filterLine : xwB yX3_filterLine cX3_filterLine 3 none 1 := ⟨wd_218, wd_188, by decide, by decide, by decide +kernel⟩
theorem kv_X3_filterLine : xwV yX3_filterLine := ⟨wd_219, wd_220⟩
theorem kb_X3_differentRests : xwB yX3_differentRests cX3_differentRests 4 (some .int) 0 := ⟨wd_223, wd_188, by decide, by decide, by decide +kernel⟩
theorem kv_X3_differentRests : xwV yX3_differentRests := ⟨wd_224, wd_225⟩
theorem kb_X3_changesOfRests : xwB yX3_changesOfRests cX3_changesOfRests 4 (some .int) 0 := ⟨wd_227, wd_188, by decide, by decide, by decide +kernel⟩
theorem kv_X3_changesOfRests : xwV yX3_changesOfRests := ⟨wd_228, wd_229⟩
theorem kb_X3_sumOfRests : xwB yX3_sumOfRests cX3_sumOfRests 4 (some .int) 0 := ⟨wd_231, wd_188, by decide, by decide, by decide +kernel⟩
theorem kv_X3_sumOfRests : xwV yX3_sumOfRests := ⟨wd_232, wd_233⟩
theorem kb_X3_worthOf : xwB yX3_worthOf cX3_worthOf 3 (some .int) 2 := ⟨wd_235, wd_188, by decide, by decide, by decide +kernel⟩
theorem kv_X3_worthOf : xwV yX3_worthOf := ⟨wd_236, wd_237⟩
theorem kb_X3_bestKind : xwB yX3_bestKind cX3_bestKind 6 (some .int) 1 := ⟨wd_239, wd_188, by decide, by decide, by decide +kernel⟩
theorem kv_X3_bestKind : xwV yX3_bestKind := ⟨wd_240, wd_241⟩
theorem kb_X4_init : xwB yX4_init cX4_init 5 none 4 := ⟨wd_262, wd_125, by decide, by decide, by decide +kernel⟩
theorem kv_X4_init : yX4_init.name = "<init>" ∧ Cond.instanceMethod yX4_init ∈ lw_w := ⟨rfl, wd_263⟩
theorem kb_X4_put : xwB yX4_put cX4_put 5 (some .int) 4 := ⟨wd_273, wd_125, by decide, by decide, by decide +kernel⟩
theorem kv_X4_put : xwV yX4_put := ⟨wd_274, wd_275⟩
theorem kb_X4_paint : xwB yX4_paint cX4_paint 3 (some .int) 2 := ⟨wd_277, wd_125, by decide, by decide, by decide +kernel⟩
theorem kv_X4_paint : xwV yX4_paint := ⟨wd_278, wd_279⟩
theorem kb_X4_at : xwB yX4_at cX4_at 4 (some .int) 3 := ⟨wd_281, wd_125, by decide, by decide, by decide +kernel⟩
theorem kv_X4_at : xwV yX4_at := ⟨wd_282, wd_283⟩
theorem kb_X4_pass : xwB yX4_pass cX4_pass 3 (some .int) 2 := ⟨wd_287, wd_125, by decide, by decide, by decide +kernel⟩
theorem kv_X4_pass : xwV yX4_pass := ⟨wd_288, wd_289⟩
theorem kb_X4_isKind : xwB yX4_isKind cX4_isKind 1 (some .boolean) 1 := ⟨wd_290, wd_125, by decide, by decide, by decide +kernel⟩
theorem kv_X4_isKind : Cond.static yX4_isKind ∈ lw_w := wd_291
theorem kb_X4_filtered : xwB yX4_filtered cX4_filtered 5 (some .int) 4 := ⟨wd_297, wd_125, by decide, by decide, by decide +kernel⟩
theorem kv_X4_filtered : xwV yX4_filtered := ⟨wd_298, wd_299⟩
theorem kb_X4_worth : xwB yX4_worth cX4_worth 5 (some .int) 4 := ⟨wd_301, wd_125, by decide, by decide, by decide +kernel⟩
theorem kv_X4_worth : xwV yX4_worth := ⟨wd_302, wd_303⟩
theorem kb_X4_forgetEncoded : xwB yX4_forgetEncoded cX4_forgetEncoded 1 none 0 := ⟨wd_306, wd_125, by decide, by decide, by decide +kernel⟩
theorem kv_X4_forgetEncoded : xwV yX4_forgetEncoded := ⟨wd_307, wd_308⟩
theorem kb_X4_firstPass : xwB yX4_firstPass cX4_firstPass 1 (some .int) 1 := ⟨wd_310, wd_125, by decide, by decide, by decide +kernel⟩
theorem kv_X4_firstPass : Cond.static yX4_firstPass ∈ lw_w := wd_311
theorem kb_X4_lastPass : xwB yX4_lastPass cX4_lastPass 1 (some .int) 1 := ⟨wd_313, wd_125, by decide, by decide, by decide +kernel⟩
theorem kv_X4_lastPass : Cond.static yX4_lastPass ∈ lw_w := wd_314
theorem kb_X4_appendLine : xwB yX4_appendLine cX4_appendLine 3 none 1 := ⟨wd_319, wd_125, by decide, by decide, by decide +kernel⟩
theorem kv_X4_appendLine : xwV yX4_appendLine := ⟨wd_320, wd_321⟩
theorem kb_X4_encode : xwB yX4_encode cX4_encode 8 (some .int) 3 := ⟨wd_325, wd_125, by decide, by decide, by decide +kernel⟩
theorem kv_X4_encode : xwV yX4_encode := ⟨wd_326, wd_327⟩
theorem kb_X4_byteAt : xwB yX4_byteAt cX4_byteAt 2 (some .int) 1 := ⟨wd_330, wd_125, by decide, by decide, by decide +kernel⟩
theorem kv_X4_byteAt : xwV yX4_byteAt := ⟨wd_331, wd_332⟩
theorem kb_X4_chosen : xwB yX4_chosen cX4_chosen 2 (some .int) 1 := ⟨wd_333, wd_125, by decide, by decide, by decide +kernel⟩
theorem kv_X4_chosen : xwV yX4_chosen := ⟨wd_334, wd_335⟩
theorem kb_X4_feed : xwB yX4_feed cX4_feed 2 (some .int) 1 := ⟨wd_340, wd_125, by decide, by decide, by decide +kernel⟩
theorem kv_X4_feed : xwV yX4_feed := ⟨wd_341, wd_342⟩
theorem kb_X4_passOn : xwB yX4_passOn cX4_passOn 2 (some .int) 0 := ⟨wd_343, wd_125, by decide, by decide, by decide +kernel⟩
theorem kv_X4_passOn : xwV yX4_passOn := ⟨wd_344, wd_345⟩
theorem kb_X4_readDraft : xwB yX4_readDraft cX4_readDraft 6 (some .int) 1 := ⟨wd_350, wd_125, by decide, by decide, by decide +kernel⟩
theorem kv_X4_readDraft : xwV yX4_readDraft := ⟨wd_351, wd_352⟩
theorem kb_X4_decode : xwB yX4_decode cX4_decode 3 (some .int) 1 := ⟨wd_355, wd_125, by decide, by decide, by decide +kernel⟩
theorem kv_X4_decode : xwV yX4_decode := ⟨wd_356, wd_357⟩
theorem kb_X4_clean : xwB yX4_clean cX4_clean 1 (some .int) 0 := ⟨wd_363, wd_125, by decide, by decide, by decide +kernel⟩
theorem kv_X4_clean : xwV yX4_clean := ⟨wd_364, wd_365⟩
theorem kb_X4_colour : xwB yX4_colour cX4_colour 2 (some .int) 1 := ⟨wd_369, wd_125, by decide, by decide, by decide +kernel⟩
theorem kv_X4_colour : xwV yX4_colour := ⟨wd_370, wd_371⟩
theorem kb_X4_order : xwB yX4_order cX4_order 2 (some .int) 1 := ⟨wd_373, wd_125, by decide, by decide, by decide +kernel⟩
theorem kv_X4_order : xwV yX4_order := ⟨wd_374, wd_375⟩
theorem kb_X4_told : xwB yX4_told cX4_told 2 (some .int) 1 := ⟨wd_380, wd_125, by decide, by decide, by decide +kernel⟩
theorem kv_X4_told : xwV yX4_told := ⟨wd_381, wd_382⟩
theorem kb_X4_clear : xwB yX4_clear cX4_clear 1 none 0 := ⟨wd_385, wd_125, by decide, by decide, by decide +kernel⟩
theorem kv_X4_clear : xwV yX4_clear := ⟨wd_386, wd_387⟩
theorem kb_X5_near : xwB yX5_near cX5_near 3 (some .int) 3 := ⟨wd_403, wd_404, by decide, by decide, by decide +kernel⟩
theorem kv_X5_near : Cond.static yX5_near ∈ lw_w := wd_405
theorem kb_X5_init : xwB yX5_init cX5_init 7 none 4 := ⟨wd_412, wd_404, by decide, by decide, by decide +kernel⟩
theorem kv_X5_init : yX5_init.name = "<init>" ∧ Cond.instanceMethod yX5_init ∈ lw_w := ⟨rfl, wd_413⟩
theorem kb_X5_thrown : xwB yX5_thrown cX5_thrown 1 (some .int) 0 := ⟨wd_415, wd_404, by decide, by decide, by decide +kernel⟩
theorem kv_X5_thrown : xwV yX5_thrown := ⟨wd_416, wd_417⟩
theorem kb_X5_in : xwB yX5_in cX5_in 3 (some .boolean) 3 := ⟨wd_418, wd_404, by decide, by decide, by decide +kernel⟩
theorem kv_X5_in : Cond.static yX5_in ∈ lw_w := wd_419
theorem kb_X5_isSample : xwB yX5_isSample cX5_isSample 4 (some .boolean) 3 := ⟨wd_421, wd_404, by decide, by decide, by decide +kernel⟩
theorem kv_X5_isSample : xwV yX5_isSample := ⟨wd_422, wd_423⟩
theorem kb_X5_place : xwB yX5_place cX5_place 2 (some .int) 2 := ⟨wd_424, wd_404, by decide, by decide, by decide +kernel⟩
theorem kv_X5_place : Cond.static yX5_place ∈ lw_w := wd_425
theorem kb_X5_put : xwB yX5_put cX5_put 6 (some .int) 4 := ⟨wd_428, wd_404, by decide, by decide, by decide +kernel⟩
theorem kv_X5_put : xwV yX5_put := ⟨wd_429, wd_430⟩
theorem kb_X5_paint : xwB yX5_paint cX5_paint 9 (some .int) 2 := ⟨wd_431, wd_404, by decide, by decide, by decide +kernel⟩
theorem kv_X5_paint : xwV yX5_paint := ⟨wd_432, wd_433⟩
theorem kb_X5_at : xwB yX5_at cX5_at 4 (some .int) 3 := ⟨wd_434, wd_404, by decide, by decide, by decide +kernel⟩
theorem kv_X5_at : xwV yX5_at := ⟨wd_435, wd_436⟩
theorem kb_X5_wide : xwB yX5_wide cX5_wide 2 (some .int) 1 := ⟨wd_437, wd_404, by decide, by decide, by decide +kernel⟩
theorem kv_X5_wide : xwV yX5_wide := ⟨wd_438, wd_439⟩
theorem kb_X5_high : xwB yX5_high cX5_high 2 (some .int) 1 := ⟨wd_440, wd_404, by decide, by decide, by decide +kernel⟩
theorem kv_X5_high : xwV yX5_high := ⟨wd_441, wd_442⟩
theorem kb_X5_lines : xwB yX5_lines cX5_lines 4 (some .int) 1 := ⟨wd_445, wd_404, by decide, by decide, by decide +kernel⟩
theorem kv_X5_lines : xwV yX5_lines := ⟨wd_446, wd_447⟩
theorem kb_X5_bytes : xwB yX5_bytes cX5_bytes 2 (some .int) 1 := ⟨wd_449, wd_404, by decide, by decide, by decide +kernel⟩
theorem kv_X5_bytes : xwV yX5_bytes := ⟨wd_450, wd_451⟩
theorem kb_X5_pass : xwB yX5_pass cX5_pass 3 (some .int) 2 := ⟨wd_453, wd_404, by decide, by decide, by decide +kernel⟩
theorem kv_X5_pass : xwV yX5_pass := ⟨wd_454, wd_455⟩
theorem kb_X5_build : xwB yX5_build cX5_build 11 none 3 := ⟨wd_456, wd_404, by decide, by decide, by decide +kernel⟩
theorem kv_X5_build : xwV yX5_build := ⟨wd_457, wd_458⟩
theorem kb_X5_size : xwB yX5_size cX5_size 1 (some .int) 1 := ⟨wd_459, wd_404, by decide, by decide, by decide +kernel⟩
theorem kv_X5_size : Cond.static yX5_size ∈ lw_w := wd_460
theorem kb_X5_with : xwB yX5_with cX5_with 8 (some .int) 4 := ⟨wd_462, wd_404, by decide, by decide, by decide +kernel⟩
theorem kv_X5_with : Cond.static yX5_with ∈ lw_w := wd_463
theorem kb_X5_before : xwB yX5_before cX5_before 3 (some .int) 2 := ⟨wd_464, wd_404, by decide, by decide, by decide +kernel⟩
theorem kv_X5_before : xwV yX5_before := ⟨wd_465, wd_466⟩


theorem kb_X5_filter : xwB yX5_filter cX5_filter 4 none 2 := ⟨wd_469, wd_404, by decide, by decide, by decide +kernel⟩
theorem kv_X5_filter : xwV yX5_filter := ⟨wd_470, wd_471⟩


theorem kb_X5_prepare : xwB yX5_prepare cX5_prepare 3 none 2 := ⟨wd_473, wd_404, by decide, by decide, by decide +kernel⟩
theorem kv_X5_prepare : xwV yX5_prepare := ⟨wd_474, wd_475⟩
theorem kb_X5_filtered : xwB yX5_filtered cX5_filtered 5 (some .int) 4 := ⟨wd_478, wd_404, by decide, by decide, by decide +kernel⟩
theorem kv_X5_filtered : xwV yX5_filtered := ⟨wd_479, wd_480⟩
theorem kb_X5_counted : xwB yX5_counted cX5_counted 8 (some .int) 2 := ⟨wd_481, wd_404, by decide, by decide, by decide +kernel⟩
theorem kv_X5_counted : xwV yX5_counted := ⟨wd_482, wd_483⟩
theorem kb_X5_worth : xwB yX5_worth cX5_worth 5 (some .int) 4 := ⟨wd_485, wd_404, by decide, by decide, by decide +kernel⟩
theorem kv_X5_worth : xwV yX5_worth := ⟨wd_486, wd_487⟩
theorem kb_X5_choose : xwB yX5_choose cX5_choose 7 (some .int) 2 := ⟨wd_489, wd_404, by decide, by decide, by decide +kernel⟩
theorem kv_X5_choose : xwV yX5_choose := ⟨wd_490, wd_491⟩
theorem kb_X5_encode : xwB yX5_encode cX5_encode 10 (some .int) 3 := ⟨wd_495, wd_404, by decide, by decide, by decide +kernel⟩
theorem kv_X5_encode : xwV yX5_encode := ⟨wd_496, wd_497⟩
theorem kb_X5_byteAt : xwB yX5_byteAt cX5_byteAt 2 (some .int) 1 := ⟨wd_498, wd_404, by decide, by decide, by decide +kernel⟩
theorem kv_X5_byteAt : xwV yX5_byteAt := ⟨wd_499, wd_500⟩
theorem kb_X5_chosen : xwB yX5_chosen cX5_chosen 2 (some .int) 1 := ⟨wd_501, wd_404, by decide, by decide, by decide +kernel⟩
theorem kv_X5_chosen : xwV yX5_chosen := ⟨wd_502, wd_503⟩
theorem kb_X5_feed : xwB yX5_feed cX5_feed 2 (some .int) 1 := ⟨wd_505, wd_404, by decide, by decide, by decide +kernel⟩
theorem kv_X5_feed : xwV yX5_feed := ⟨wd_506, wd_507⟩
theorem kb_X5_passOn : xwB yX5_passOn cX5_passOn 2 (some .int) 0 := ⟨wd_508, wd_404, by decide, by decide, by decide +kernel⟩
theorem kv_X5_passOn : xwV yX5_passOn := ⟨wd_509, wd_510⟩
theorem kb_X5_unpack : xwB yX5_unpack cX5_unpack 10 none 2 := ⟨wd_511, wd_404, by decide, by decide, by decide +kernel⟩
theorem kv_X5_unpack : xwV yX5_unpack := ⟨wd_512, wd_513⟩
theorem kb_X5_decode : xwB yX5_decode cX5_decode 10 (some .int) 1 := ⟨wd_515, wd_404, by decide, by decide, by decide +kernel⟩
theorem kv_X5_decode : xwV yX5_decode := ⟨wd_516, wd_517⟩
theorem kb_X5_clean : xwB yX5_clean cX5_clean 6 (some .int) 0 := ⟨wd_518, wd_404, by decide, by decide, by decide +kernel⟩
theorem kv_X5_clean : xwV yX5_clean := ⟨wd_519, wd_520⟩
theorem kb_X5_colour : xwB yX5_colour cX5_colour 2 (some .int) 1 := ⟨wd_523, wd_404, by decide, by decide, by decide +kernel⟩
theorem kv_X5_colour : xwV yX5_colour := ⟨wd_524, wd_525⟩
theorem kb_X5_part : xwB yX5_part cX5_part 3 (some .int) 2 := ⟨wd_526, wd_404, by decide, by decide, by decide +kernel⟩
theorem kv_X5_part : xwV yX5_part := ⟨wd_527, wd_528⟩
theorem kb_X5_far : xwB yX5_far cX5_far 6 (some .int) 2 := ⟨wd_530, wd_404, by decide, by decide, by decide +kernel⟩
theorem kv_X5_far : xwV yX5_far := ⟨wd_531, wd_532⟩
theorem kb_X5_order : xwB yX5_order cX5_order 7 (some .int) 1 := ⟨wd_534, wd_404, by decide, by decide, by decide +kernel⟩
theorem kv_X5_order : xwV yX5_order := ⟨wd_535, wd_536⟩
theorem kb_X5_told : xwB yX5_told cX5_told 2 (some .int) 1 := ⟨wd_537, wd_404, by decide, by decide, by decide +kernel⟩
theorem kv_X5_told : xwV yX5_told := ⟨wd_538, wd_539⟩
theorem kb_X5_clear : xwB yX5_clear cX5_clear 2 none 0 := ⟨wd_540, wd_404, by decide, by decide, by decide +kernel⟩
theorem kv_X5_clear : xwV yX5_clear := ⟨wd_541, wd_542⟩
