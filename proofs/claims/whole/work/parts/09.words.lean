theorem GT_all {ws : List Cond} (ps : List Nat) (h : ws = ps.filterMap (fun i => lw_tbl[i]?)) (hg : ws.all goodWord = true) : ∀ w ∈ ws, w ∈ GT := fun w hw => by
  have hg1 := List.all_eq_true.mp hg w hw
  rw [h] at hw
  obtain ⟨i, -, hi⟩ := List.mem_filterMap.mp hw
  exact GT_mem i hi hg1
theorem wd_1 : Cond.methodLink RX0 3 objectInit ∈ GT := GT_mem 136 (by decide +kernel) (by decide +kernel)
theorem wd_2 : Cond.instanceMethod objectInit ∈ GT := GT_mem 62 (by decide +kernel) (by decide +kernel)
set_option maxRecDepth 20000 in
theorem wd_3 : Cond.code objectInit ⟨#[0xb1]⟩ 1 none ∈ GT := GT_mem 63 rfl (by decide +kernel)
theorem wd_4 : Cond.arrayClass .int ∈ GT := GT_mem 105 (by decide +kernel) (by decide +kernel)
theorem wd_5 : Cond.fieldLink RX0 9 "GlulxSaves$Bytes" "bytes" "[I" ∈ GT := GT_mem 137 (by decide +kernel) (by decide +kernel)
theorem wd_6 : Cond.fieldLink RX0 15 "GlulxSaves$Bytes" "size" "I" ∈ GT := GT_mem 138 (by decide +kernel) (by decide +kernel)
theorem wd_7 : Cond.fieldLink RX0 19 "GlulxSaves$Bytes" "overflowed" "Z" ∈ GT := GT_mem 142 (by decide +kernel) (by decide +kernel)
theorem wd_8 : Cond.methodLink RX0 23 arraycopyName ∈ GT := GT_mem 417 (by decide +kernel) (by decide +kernel)
theorem wd_9 : Cond.native arraycopyName ∈ GT := GT_mem 247 (by decide +kernel) (by decide +kernel)
theorem wd_10 : Cond.static arraycopyName ∈ GT := GT_mem 246 (by decide +kernel) (by decide +kernel)
theorem wd_11 : Cond.initialized "java/lang/System" ∈ GT := GT_mem 48 (by decide +kernel) (by decide +kernel)
theorem wd_12 : Cond.methodLink RX0 29 yX0_setByte ∈ GT := GT_mem 372 (by decide +kernel) (by decide +kernel)
theorem wd_13 : Cond.methodLink RX0 33 yX0_add ∈ GT := GT_mem 368 (by decide +kernel) (by decide +kernel)
theorem wd_14 : Cond.fieldLink RX4 23 "GlulxSaves$Story" "end" "I" ∈ GT := GT_mem 181 (by decide +kernel) (by decide +kernel)
theorem wd_15 : Cond.methodLink RX4 15 yX4_inSteps ∈ GT := GT_mem 174 (by decide +kernel) (by decide +kernel)
theorem wd_16 : Cond.methodLink RX4 3 objectInit ∈ GT := GT_mem 173 (by decide +kernel) (by decide +kernel)
theorem wd_17 : Cond.fieldLink RX4 9 "GlulxSaves$Story" "original" "[I" ∈ GT := GT_mem 185 (by decide +kernel) (by decide +kernel)
theorem wd_18 : Cond.fieldLink RX4 19 "GlulxSaves$Story" "ram" "I" ∈ GT := GT_mem 177 (by decide +kernel) (by decide +kernel)
theorem wd_19 : Cond.methodLink RX1 3 objectInit ∈ GT := GT_mem 69 (by decide +kernel) (by decide +kernel)
theorem wd_20 : Cond.fieldLink RX1 9 "GlulxSaves$Machine" "memory" "[I" ∈ GT := GT_mem 70 (by decide +kernel) (by decide +kernel)
theorem wd_21 : Cond.fieldLink RX1 15 "GlulxSaves$Machine" "size" "I" ∈ GT := GT_mem 74 (by decide +kernel) (by decide +kernel)
theorem wd_22 : Cond.fieldLink RX1 19 "GlulxSaves$Machine" "stack" "[I" ∈ GT := GT_mem 78 (by decide +kernel) (by decide +kernel)
theorem wd_23 : Cond.fieldLink RX1 22 "GlulxSaves$Machine" "depth" "I" ∈ GT := GT_mem 80 (by decide +kernel) (by decide +kernel)
theorem wd_24 : Cond.fieldLink RX1 25 "GlulxSaves$Machine" "starts" "[I" ∈ GT := GT_mem 83 (by decide +kernel) (by decide +kernel)
theorem wd_25 : Cond.fieldLink RX1 28 "GlulxSaves$Machine" "lengths" "[I" ∈ GT := GT_mem 85 (by decide +kernel) (by decide +kernel)
theorem wd_26 : Cond.fieldLink RX1 31 "GlulxSaves$Machine" "blocks" "I" ∈ GT := GT_mem 87 (by decide +kernel) (by decide +kernel)
theorem wd_27 : Cond.fieldLink RX1 34 "GlulxSaves$Story" "original" "[I" ∈ GT := GT_mem 186 (by decide +kernel) (by decide +kernel)
theorem wd_28 : Cond.methodLink RX1 39 arraycopyName ∈ GT := GT_mem 245 (by decide +kernel) (by decide +kernel)
theorem wd_29 : Cond.fieldLink RX1 45 "GlulxSaves$Story" "end" "I" ∈ GT := GT_mem 182 (by decide +kernel) (by decide +kernel)
theorem wd_30 : Cond.methodLink RX1 48 Lib.Math.min.name ∈ GT := GT_mem 542 (by decide +kernel) (by decide +kernel)
theorem wd_31 : Cond.static Lib.Math.min.name ∈ GT := GT_mem 400 (by decide +kernel) (by decide +kernel)
theorem wd_32 : Cond.initialized "java/lang/Math" ∈ GT := GT_mem 55 (by decide +kernel) (by decide +kernel)
set_option maxRecDepth 20000 in
theorem wd_33 : Cond.code Lib.Math.min.name Lib.Math.min.code 2 (some .int) ∈ GT := GT_mem 401 rfl (by decide +kernel)
theorem wd_34 : Cond.methodLink RX5 3 objectInit ∈ GT := GT_mem 156 (by decide +kernel) (by decide +kernel)
theorem wd_35 : Cond.classLink RX5 9 RX1 ∈ GT := GT_mem 157 (by decide +kernel) (by decide +kernel)
theorem wd_36 : Cond.fieldLink RX5 11 "GlulxSaves$Undo" "kept" "[LGlulxSaves$Machine;" ∈ GT := GT_mem 160 (by decide +kernel) (by decide +kernel)
theorem wd_37 : Cond.fieldLink RX5 17 "GlulxSaves$Undo" "count" "I" ∈ GT := GT_mem 161 (by decide +kernel) (by decide +kernel)
theorem wd_38 : Cond.instantiable RX1 7 ∈ GT := GT_mem 65 (by decide +kernel) (by decide +kernel)
theorem wd_39 : Cond.initialized RX1 ∈ GT := GT_mem 42 (by decide +kernel) (by decide +kernel)
theorem wd_40 : Cond.methodLink RX5 25 yX1_become ∈ GT := GT_mem 564 (by decide +kernel) (by decide +kernel)
theorem wd_41 : Cond.methodLink RX5 22 yX5_dropEldest ∈ GT := GT_mem 560 (by decide +kernel) (by decide +kernel)
theorem wd_42 : Cond.methodLink RX2 3 objectInit ∈ GT := GT_mem 111 (by decide +kernel) (by decide +kernel)
theorem wd_43 : Cond.fieldLink RX2 9 "GlulxSaves$Others" "count" "I" ∈ GT := GT_mem 112 (by decide +kernel) (by decide +kernel)
theorem wd_44 : Cond.fieldLink RX2 15 "GlulxSaves$Others" "letters" "[I" ∈ GT := GT_mem 116 (by decide +kernel) (by decide +kernel)
theorem wd_45 : Cond.fieldLink RX2 19 "GlulxSaves$Others" "lengths" "[I" ∈ GT := GT_mem 118 (by decide +kernel) (by decide +kernel)
theorem wd_46 : Cond.fieldLink RX2 22 "GlulxSaves$Others" "bytes" "[I" ∈ GT := GT_mem 120 (by decide +kernel) (by decide +kernel)
theorem wd_47 : Cond.methodLink RX2 25 arraycopyName ∈ GT := GT_mem 547 (by decide +kernel) (by decide +kernel)
theorem wd_48 : Cond.methodLink RX2 31 yX0_fourAt ∈ GT := GT_mem 532 (by decide +kernel) (by decide +kernel)
theorem wd_49 : Cond.methodLink RX2 37 yX0_byteAt ∈ GT := GT_mem 533 (by decide +kernel) (by decide +kernel)
theorem wd_50 : Cond.fieldLink RX6 44 "GlulxSaves$Bytes" "size" "I" ∈ GT := GT_mem 140 (by decide +kernel) (by decide +kernel)
theorem wd_51 : Cond.methodLink RX6 10 yX0_addFour ∈ GT := GT_mem 364 (by decide +kernel) (by decide +kernel)
theorem wd_52 : Cond.methodLink RX6 47 yX0_setFour ∈ GT := GT_mem 388 (by decide +kernel) (by decide +kernel)
theorem wd_53 : Cond.methodLink RX6 51 yX0_add ∈ GT := GT_mem 384 (by decide +kernel) (by decide +kernel)
theorem wd_54 : Cond.constant RX6 54 (1229351012) ∈ GT := GT_mem 380 (by decide +kernel) (by decide +kernel)
theorem wd_55 : Cond.methodLink RX6 55 yX6_openChunk ∈ GT := GT_mem 381 (by decide +kernel) (by decide +kernel)
theorem wd_56 : Cond.fieldLink RX6 59 "GlulxSaves$Story" "original" "[I" ∈ GT := GT_mem 187 (by decide +kernel) (by decide +kernel)
theorem wd_57 : Cond.methodLink RX6 65 yX6_closeChunk ∈ GT := GT_mem 385 (by decide +kernel) (by decide +kernel)
theorem wd_58 : Cond.methodLink RX6 80 Lib.Math.min.name ∈ GT := GT_mem 399 (by decide +kernel) (by decide +kernel)
theorem wd_59 : Cond.constant RX6 69 (1129145709) ∈ GT := GT_mem 395 (by decide +kernel) (by decide +kernel)
theorem wd_60 : Cond.fieldLink RX6 70 "GlulxSaves$Machine" "size" "I" ∈ GT := GT_mem 76 (by decide +kernel) (by decide +kernel)
theorem wd_61 : Cond.fieldLink RX6 71 "GlulxSaves$Story" "ram" "I" ∈ GT := GT_mem 179 (by decide +kernel) (by decide +kernel)
theorem wd_62 : Cond.fieldLink RX6 74 "GlulxSaves$Machine" "memory" "[I" ∈ GT := GT_mem 72 (by decide +kernel) (by decide +kernel)
theorem wd_63 : Cond.methodLink RX6 77 yX6_writeZeros ∈ GT := GT_mem 396 (by decide +kernel) (by decide +kernel)
theorem wd_64 : Cond.constant RX6 86 (1400138611) ∈ GT := GT_mem 405 (by decide +kernel) (by decide +kernel)
theorem wd_65 : Cond.fieldLink RX6 87 "GlulxSaves$Machine" "depth" "I" ∈ GT := GT_mem 82 (by decide +kernel) (by decide +kernel)
theorem wd_66 : Cond.fieldLink RX6 90 "GlulxSaves$Machine" "stack" "[I" ∈ GT := GT_mem 79 (by decide +kernel) (by decide +kernel)
theorem wd_67 : Cond.constant RX6 93 (1296133228) ∈ GT := GT_mem 409 (by decide +kernel) (by decide +kernel)
theorem wd_68 : Cond.fieldLink RX6 31 "GlulxSaves$Machine" "blocks" "I" ∈ GT := GT_mem 88 (by decide +kernel) (by decide +kernel)
theorem wd_69 : Cond.fieldLink RX6 94 "GlulxSaves$Machine" "starts" "[I" ∈ GT := GT_mem 84 (by decide +kernel) (by decide +kernel)
theorem wd_70 : Cond.fieldLink RX6 97 "GlulxSaves$Machine" "lengths" "[I" ∈ GT := GT_mem 86 (by decide +kernel) (by decide +kernel)
theorem wd_71 : Cond.fieldLink RX6 100 "GlulxSaves$Others" "count" "I" ∈ GT := GT_mem 114 (by decide +kernel) (by decide +kernel)
theorem wd_72 : Cond.fieldLink RX6 105 "GlulxSaves$Others" "letters" "[I" ∈ GT := GT_mem 117 (by decide +kernel) (by decide +kernel)
theorem wd_73 : Cond.fieldLink RX6 108 "GlulxSaves$Others" "lengths" "[I" ∈ GT := GT_mem 119 (by decide +kernel) (by decide +kernel)
theorem wd_74 : Cond.fieldLink RX6 109 "GlulxSaves$Others" "bytes" "[I" ∈ GT := GT_mem 121 (by decide +kernel) (by decide +kernel)
theorem wd_75 : Cond.constant RX6 9 (1179603533) ∈ GT := GT_mem 363 (by decide +kernel) (by decide +kernel)
theorem wd_76 : Cond.constant RX6 16 (1229347411) ∈ GT := GT_mem 376 (by decide +kernel) (by decide +kernel)
theorem wd_77 : Cond.methodLink RX6 17 yX6_writeHead ∈ GT := GT_mem 377 (by decide +kernel) (by decide +kernel)
theorem wd_78 : Cond.methodLink RX6 23 yX6_writeMemory ∈ GT := GT_mem 392 (by decide +kernel) (by decide +kernel)
theorem wd_79 : Cond.methodLink RX6 27 yX6_writeStack ∈ GT := GT_mem 402 (by decide +kernel) (by decide +kernel)
theorem wd_80 : Cond.methodLink RX6 40 yX6_writeOthers ∈ GT := GT_mem 410 (by decide +kernel) (by decide +kernel)
theorem wd_81 : Cond.methodLink RX6 37 yX6_writeBlocks ∈ GT := GT_mem 406 (by decide +kernel) (by decide +kernel)
theorem wd_82 : Cond.methodLink RX3 3 objectInit ∈ GT := GT_mem 201 (by decide +kernel) (by decide +kernel)
theorem wd_83 : Cond.classLink RX3 9 RX1 ∈ GT := GT_mem 202 (by decide +kernel) (by decide +kernel)
theorem wd_84 : Cond.fieldLink RX3 12 "GlulxSaves$Reader" "machine" "LGlulxSaves$Machine;" ∈ GT := GT_mem 207 (by decide +kernel) (by decide +kernel)
theorem wd_85 : Cond.classLink RX3 18 RX2 ∈ GT := GT_mem 204 (by decide +kernel) (by decide +kernel)
theorem wd_86 : Cond.instantiable RX2 4 ∈ GT := GT_mem 107 (by decide +kernel) (by decide +kernel)
theorem wd_87 : Cond.initialized RX2 ∈ GT := GT_mem 43 (by decide +kernel) (by decide +kernel)
theorem wd_88 : Cond.fieldLink RX3 21 "GlulxSaves$Reader" "others" "LGlulxSaves$Others;" ∈ GT := GT_mem 209 (by decide +kernel) (by decide +kernel)
theorem wd_89 : Cond.fieldLink RX3 25 "GlulxSaves$Reader" "fault" "I" ∈ GT := GT_mem 211 (by decide +kernel) (by decide +kernel)
theorem wd_90 : Cond.fieldLink RX3 29 "GlulxSaves$Reader" "place" "I" ∈ GT := GT_mem 213 (by decide +kernel) (by decide +kernel)
theorem wd_91 : Cond.fieldLink RX3 32 "GlulxSaves$Reader" "next" "I" ∈ GT := GT_mem 215 (by decide +kernel) (by decide +kernel)
theorem wd_92 : Cond.fieldLink RX3 35 "GlulxSaves$Reader" "sawHead" "Z" ∈ GT := GT_mem 216 (by decide +kernel) (by decide +kernel)
theorem wd_93 : Cond.fieldLink RX3 39 "GlulxSaves$Reader" "sawMemory" "Z" ∈ GT := GT_mem 217 (by decide +kernel) (by decide +kernel)
theorem wd_94 : Cond.fieldLink RX3 42 "GlulxSaves$Reader" "sawStack" "Z" ∈ GT := GT_mem 218 (by decide +kernel) (by decide +kernel)
theorem wd_95 : Cond.fieldLink RX3 45 "GlulxSaves$Reader" "sawBlocks" "Z" ∈ GT := GT_mem 219 (by decide +kernel) (by decide +kernel)
theorem wd_96 : Cond.fieldLink RX3 48 "GlulxSaves$Reader" "story" "LGlulxSaves$Story;" ∈ GT := GT_mem 206 (by decide +kernel) (by decide +kernel)
theorem wd_97 : Cond.methodLink RX3 72 yX1_begin ∈ GT := GT_mem 430 (by decide +kernel) (by decide +kernel)
theorem wd_98 : Cond.fieldLink RX3 76 "GlulxSaves$Others" "count" "I" ∈ GT := GT_mem 113 (by decide +kernel) (by decide +kernel)
theorem wd_99 : Cond.methodLink RX3 79 yX0_holds ∈ GT := GT_mem 444 (by decide +kernel) (by decide +kernel)
theorem wd_100 : Cond.fieldLink RX3 59 "GlulxSaves$Bytes" "size" "I" ∈ GT := GT_mem 139 (by decide +kernel) (by decide +kernel)
theorem wd_101 : Cond.methodLink RX3 68 yX3_fail ∈ GT := GT_mem 448 (by decide +kernel) (by decide +kernel)
theorem wd_102 : Cond.methodLink RX3 90 yX3_reaches ∈ GT := GT_mem 440 (by decide +kernel) (by decide +kernel)
theorem wd_103 : Cond.methodLink RX3 98 yX0_byteAt ∈ GT := GT_mem 452 (by decide +kernel) (by decide +kernel)
theorem wd_104 : Cond.methodLink RX3 102 yX0_fourAt ∈ GT := GT_mem 461 (by decide +kernel) (by decide +kernel)
theorem wd_105 : Cond.constant RX3 83 (1179603533) ∈ GT := GT_mem 435 (by decide +kernel) (by decide +kernel)
theorem wd_106 : Cond.methodLink RX3 84 yX3_readLetters ∈ GT := GT_mem 436 (by decide +kernel) (by decide +kernel)
theorem wd_107 : Cond.constantLong RX3 88 (4) ∈ GT := GT_mem 456 (by decide +kernel) (by decide +kernel)
theorem wd_108 : Cond.methodLink RX3 94 yX3_readWholeLength ∈ GT := GT_mem 457 (by decide +kernel) (by decide +kernel)
theorem wd_109 : Cond.constant RX3 97 (1229347411) ∈ GT := GT_mem 465 (by decide +kernel) (by decide +kernel)
theorem wd_110 : Cond.constant RX3 132 (1229351012) ∈ GT := GT_mem 491 (by decide +kernel) (by decide +kernel)
theorem wd_111 : Cond.constant RX3 123 (1129145709) ∈ GT := GT_mem 478 (by decide +kernel) (by decide +kernel)
theorem wd_112 : Cond.constant RX3 124 (1400138611) ∈ GT := GT_mem 479 (by decide +kernel) (by decide +kernel)
theorem wd_113 : Cond.constant RX3 125 (1296133228) ∈ GT := GT_mem 480 (by decide +kernel) (by decide +kernel)
theorem wd_114 : Cond.methodLink RX3 119 yX3_wasSeen ∈ GT := GT_mem 474 (by decide +kernel) (by decide +kernel)
theorem wd_115 : Cond.methodLink RX3 126 yX3_lengthIsRight ∈ GT := GT_mem 485 (by decide +kernel) (by decide +kernel)
theorem wd_116 : Cond.methodLink RX3 129 yX3_isKnown ∈ GT := GT_mem 488 (by decide +kernel) (by decide +kernel)
theorem wd_117 : Cond.fieldLink RX3 152 "GlulxSaves$Story" "original" "[I" ∈ GT := GT_mem 188 (by decide +kernel) (by decide +kernel)
theorem wd_118 : Cond.methodLink RX3 158 yX4_allowsSize ∈ GT := GT_mem 508 (by decide +kernel) (by decide +kernel)
theorem wd_119 : Cond.fieldLink RX3 161 "GlulxSaves$Machine" "size" "I" ∈ GT := GT_mem 77 (by decide +kernel) (by decide +kernel)
theorem wd_120 : Cond.fieldLink RX3 162 "GlulxSaves$Story" "ram" "I" ∈ GT := GT_mem 180 (by decide +kernel) (by decide +kernel)
theorem wd_121 : Cond.fieldLink RX3 165 "GlulxSaves$Machine" "memory" "[I" ∈ GT := GT_mem 73 (by decide +kernel) (by decide +kernel)
theorem wd_122 : Cond.methodLink RX3 168 yX1_addInt ∈ GT := GT_mem 517 (by decide +kernel) (by decide +kernel)
theorem wd_123 : Cond.fieldLink RX3 171 "GlulxSaves$Story" "end" "I" ∈ GT := GT_mem 184 (by decide +kernel) (by decide +kernel)
theorem wd_124 : Cond.methodLink RX3 174 yX1_blocksEnd ∈ GT := GT_mem 522 (by decide +kernel) (by decide +kernel)
theorem wd_125 : Cond.methodLink RX3 178 Lib.Math.max.name ∈ GT := GT_mem 523 (by decide +kernel) (by decide +kernel)
theorem wd_126 : Cond.static Lib.Math.max.name ∈ GT := GT_mem 524 (by decide +kernel) (by decide +kernel)
set_option maxRecDepth 20000 in
theorem wd_127 : Cond.code Lib.Math.max.name Lib.Math.max.code 2 (some .int) ∈ GT := GT_mem 525 rfl (by decide +kernel)
theorem wd_128 : Cond.methodLink RX3 184 yX1_fits ∈ GT := GT_mem 526 (by decide +kernel) (by decide +kernel)
theorem wd_129 : Cond.methodLink RX3 187 yX1_addBlock ∈ GT := GT_mem 527 (by decide +kernel) (by decide +kernel)
theorem wd_130 : Cond.methodLink RX3 136 yX3_readSize ∈ GT := GT_mem 504 (by decide +kernel) (by decide +kernel)
theorem wd_131 : Cond.methodLink RX3 139 yX3_readMemory ∈ GT := GT_mem 509 (by decide +kernel) (by decide +kernel)
theorem wd_132 : Cond.methodLink RX3 133 yX3_readHead ∈ GT := GT_mem 500 (by decide +kernel) (by decide +kernel)
theorem wd_133 : Cond.methodLink RX3 145 yX3_readBlocks ∈ GT := GT_mem 518 (by decide +kernel) (by decide +kernel)
theorem wd_134 : Cond.methodLink RX3 142 yX3_readStack ∈ GT := GT_mem 513 (by decide +kernel) (by decide +kernel)
theorem wd_135 : Cond.methodLink RX3 148 yX2_addFrom ∈ GT := GT_mem 528 (by decide +kernel) (by decide +kernel)
theorem wd_136 : Cond.methodLink RX3 105 yX3_mayCome ∈ GT := GT_mem 470 (by decide +kernel) (by decide +kernel)
theorem wd_137 : Cond.methodLink RX3 108 yX3_lengthMayBe ∈ GT := GT_mem 481 (by decide +kernel) (by decide +kernel)
theorem wd_138 : Cond.methodLink RX3 112 yX3_isWhole ∈ GT := GT_mem 492 (by decide +kernel) (by decide +kernel)
theorem wd_139 : Cond.methodLink RX3 115 yX3_readInside ∈ GT := GT_mem 496 (by decide +kernel) (by decide +kernel)
theorem wd_140 : Cond.methodLink RX3 52 yX3_forget ∈ GT := GT_mem 426 (by decide +kernel) (by decide +kernel)
theorem wd_141 : Cond.methodLink RX3 55 yX3_readFront ∈ GT := GT_mem 431 (by decide +kernel) (by decide +kernel)
theorem wd_142 : Cond.methodLink RX3 64 yX3_readChunk ∈ GT := GT_mem 466 (by decide +kernel) (by decide +kernel)
theorem wd_143 : Cond.fieldLink RX8 98 "GlulxSavesModel" "end" "I" ∈ GT := GT_mem 719 (by decide +kernel) (by decide +kernel)
theorem wd_144 : Cond.fieldLink RX8 79 "GlulxSavesModel" "seed" "I" ∈ GT := GT_mem 717 (by decide +kernel) (by decide +kernel)
theorem wd_145 : Cond.methodLink RX8 1 objectInit ∈ GT := GT_mem 704 (by decide +kernel) (by decide +kernel)
theorem wd_146 : Cond.fieldLink RX8 7 "GlulxSavesModel" "memory" "[I" ∈ GT := GT_mem 721 (by decide +kernel) (by decide +kernel)
theorem wd_147 : Cond.fieldLink RX8 13 "GlulxSavesModel" "stack" "[I" ∈ GT := GT_mem 723 (by decide +kernel) (by decide +kernel)
theorem wd_148 : Cond.fieldLink RX8 16 "GlulxSavesModel" "starts" "[I" ∈ GT := GT_mem 725 (by decide +kernel) (by decide +kernel)
theorem wd_149 : Cond.fieldLink RX8 19 "GlulxSavesModel" "lengths" "[I" ∈ GT := GT_mem 726 (by decide +kernel) (by decide +kernel)
theorem wd_150 : Cond.fieldLink RX8 22 "GlulxSavesModel" "file" "[I" ∈ GT := GT_mem 730 (by decide +kernel) (by decide +kernel)
theorem wd_151 : Cond.fieldLink RX8 25 "GlulxSavesModel" "otherName" "[I" ∈ GT := GT_mem 732 (by decide +kernel) (by decide +kernel)
theorem wd_152 : Cond.fieldLink RX8 28 "GlulxSavesModel" "otherLong" "[I" ∈ GT := GT_mem 733 (by decide +kernel) (by decide +kernel)
theorem wd_153 : Cond.fieldLink RX8 31 "GlulxSavesModel" "otherByte" "[I" ∈ GT := GT_mem 734 (by decide +kernel) (by decide +kernel)
theorem wd_154 : Cond.fieldLink RX8 34 "GlulxSavesModel" "undoM" "[I" ∈ GT := GT_mem 739 (by decide +kernel) (by decide +kernel)
theorem wd_155 : Cond.fieldLink RX8 37 "GlulxSavesModel" "undoMemory" "[I" ∈ GT := GT_mem 740 (by decide +kernel) (by decide +kernel)
theorem wd_156 : Cond.fieldLink RX8 40 "GlulxSavesModel" "undoStackLong" "[I" ∈ GT := GT_mem 741 (by decide +kernel) (by decide +kernel)
theorem wd_157 : Cond.fieldLink RX8 43 "GlulxSavesModel" "undoStack" "[I" ∈ GT := GT_mem 742 (by decide +kernel) (by decide +kernel)
theorem wd_158 : Cond.fieldLink RX8 46 "GlulxSavesModel" "undoBlocks" "[I" ∈ GT := GT_mem 743 (by decide +kernel) (by decide +kernel)
theorem wd_159 : Cond.fieldLink RX8 49 "GlulxSavesModel" "undoStarts" "[I" ∈ GT := GT_mem 744 (by decide +kernel) (by decide +kernel)
theorem wd_160 : Cond.fieldLink RX8 52 "GlulxSavesModel" "undoLengths" "[I" ∈ GT := GT_mem 745 (by decide +kernel) (by decide +kernel)
theorem wd_161 : Cond.fieldLink RX8 55 "GlulxSavesModel" "making" "[I" ∈ GT := GT_mem 747 (by decide +kernel) (by decide +kernel)
theorem wd_162 : Cond.fieldLink RX8 58 "GlulxSavesModel" "newMemory" "[I" ∈ GT := GT_mem 750 (by decide +kernel) (by decide +kernel)
theorem wd_163 : Cond.fieldLink RX8 61 "GlulxSavesModel" "newStack" "[I" ∈ GT := GT_mem 752 (by decide +kernel) (by decide +kernel)
theorem wd_164 : Cond.fieldLink RX8 64 "GlulxSavesModel" "newStarts" "[I" ∈ GT := GT_mem 754 (by decide +kernel) (by decide +kernel)
theorem wd_165 : Cond.fieldLink RX8 67 "GlulxSavesModel" "newLengths" "[I" ∈ GT := GT_mem 755 (by decide +kernel) (by decide +kernel)
theorem wd_166 : Cond.fieldLink RX8 70 "GlulxSavesModel" "newName" "[I" ∈ GT := GT_mem 757 (by decide +kernel) (by decide +kernel)
theorem wd_167 : Cond.fieldLink RX8 73 "GlulxSavesModel" "newLong" "[I" ∈ GT := GT_mem 758 (by decide +kernel) (by decide +kernel)
theorem wd_168 : Cond.fieldLink RX8 76 "GlulxSavesModel" "newByte" "[I" ∈ GT := GT_mem 759 (by decide +kernel) (by decide +kernel)
theorem wd_169 : Cond.constantLong RX8 83 (16) ∈ GT := GT_mem 705 (by decide +kernel) (by decide +kernel)
theorem wd_170 : Cond.constantLong RX8 85 (96) ∈ GT := GT_mem 706 (by decide +kernel) (by decide +kernel)
theorem wd_171 : Cond.methodLink RX8 87 yX8_in ∈ GT := GT_mem 707 (by decide +kernel) (by decide +kernel)
theorem wd_172 : Cond.fieldLink RX8 91 "GlulxSavesModel" "ram" "I" ∈ GT := GT_mem 718 (by decide +kernel) (by decide +kernel)
theorem wd_173 : Cond.constantLong RX8 94 (128) ∈ GT := GT_mem 710 (by decide +kernel) (by decide +kernel)
theorem wd_174 : Cond.constantLong RX8 96 (256) ∈ GT := GT_mem 711 (by decide +kernel) (by decide +kernel)
theorem wd_175 : Cond.fieldLink RX8 101 "GlulxSavesModel" "m" "I" ∈ GT := GT_mem 720 (by decide +kernel) (by decide +kernel)
theorem wd_176 : Cond.methodLink RX8 104 yX8_original ∈ GT := GT_mem 712 (by decide +kernel) (by decide +kernel)
theorem wd_177 : Cond.constantLong RX8 111 (512) ∈ GT := GT_mem 879 (by decide +kernel) (by decide +kernel)
theorem wd_178 : Cond.fieldLink RX8 108 "GlulxSavesModel" "thrown" "I" ∈ GT := GT_mem 716 (by decide +kernel) (by decide +kernel)
theorem wd_179 : Cond.constantLong RX8 113 (255) ∈ GT := GT_mem 870 (by decide +kernel) (by decide +kernel)
theorem wd_180 : Cond.methodLink RX8 115 yX8_isSize ∈ GT := GT_mem 875 (by decide +kernel) (by decide +kernel)
theorem wd_181 : Cond.fieldLink RX8 119 "GlulxSavesModel" "blocks" "I" ∈ GT := GT_mem 724 (by decide +kernel) (by decide +kernel)
theorem wd_182 : Cond.fieldLink RX8 122 "GlulxSavesModel" "stackLong" "I" ∈ GT := GT_mem 722 (by decide +kernel) (by decide +kernel)
theorem wd_183 : Cond.constantLong RX8 125 (64) ∈ GT := GT_mem 892 (by decide +kernel) (by decide +kernel)
theorem wd_184 : Cond.constantLong RX8 127 (511) ∈ GT := GT_mem 901 (by decide +kernel) (by decide +kernel)
theorem wd_185 : Cond.fieldLink RX8 129 "GlulxSavesModel" "guardAt" "I" ∈ GT := GT_mem 727 (by decide +kernel) (by decide +kernel)
theorem wd_186 : Cond.fieldLink RX8 132 "GlulxSavesModel" "guardLong" "I" ∈ GT := GT_mem 728 (by decide +kernel) (by decide +kernel)
theorem wd_187 : Cond.fieldLink RX8 135 "GlulxSavesModel" "made" "I" ∈ GT := GT_mem 746 (by decide +kernel) (by decide +kernel)
theorem wd_188 : Cond.methodLink RX8 138 yX8_put ∈ GT := GT_mem 911 (by decide +kernel) (by decide +kernel)
theorem wd_189 : Cond.methodLink RX8 142 yX8_putFour ∈ GT := GT_mem 907 (by decide +kernel) (by decide +kernel)
theorem wd_190 : Cond.methodLink RX8 145 yX8_putAt ∈ GT := GT_mem 925 (by decide +kernel) (by decide +kernel)
theorem wd_191 : Cond.constant RX8 149 (1129145709) ∈ GT := GT_mem 933 (by decide +kernel) (by decide +kernel)
theorem wd_192 : Cond.methodLink RX8 150 yX8_chunk ∈ GT := GT_mem 917 (by decide +kernel) (by decide +kernel)
theorem wd_193 : Cond.methodLink RX8 153 yX8_close ∈ GT := GT_mem 921 (by decide +kernel) (by decide +kernel)
theorem wd_194 : Cond.constant RX8 156 (1179603533) ∈ GT := GT_mem 906 (by decide +kernel) (by decide +kernel)
theorem wd_195 : Cond.constant RX8 157 (1229347411) ∈ GT := GT_mem 915 (by decide +kernel) (by decide +kernel)
theorem wd_196 : Cond.constant RX8 158 (1229351012) ∈ GT := GT_mem 916 (by decide +kernel) (by decide +kernel)
theorem wd_197 : Cond.methodLink RX8 159 yX8_putMemory ∈ GT := GT_mem 929 (by decide +kernel) (by decide +kernel)
theorem wd_198 : Cond.constant RX8 162 (1400138611) ∈ GT := GT_mem 934 (by decide +kernel) (by decide +kernel)
theorem wd_199 : Cond.constant RX8 163 (1296133228) ∈ GT := GT_mem 935 (by decide +kernel) (by decide +kernel)
theorem wd_200 : Cond.fieldLink RX8 164 "GlulxSavesModel" "others" "I" ∈ GT := GT_mem 731 (by decide +kernel) (by decide +kernel)
theorem wd_201 : Cond.fieldLink RX8 167 "GlulxSavesModel" "fileLong" "I" ∈ GT := GT_mem 729 (by decide +kernel) (by decide +kernel)
theorem wd_202 : Cond.fieldLink RX8 170 "GlulxSavesModel" "now" "I" ∈ GT := GT_mem 761 (by decide +kernel) (by decide +kernel)
theorem wd_203 : Cond.fieldLink RX8 173 "GlulxSavesModel" "nowAt" "I" ∈ GT := GT_mem 762 (by decide +kernel) (by decide +kernel)
theorem wd_204 : Cond.fieldLink RX8 176 "GlulxSavesModel" "at" "I" ∈ GT := GT_mem 748 (by decide +kernel) (by decide +kernel)
theorem wd_205 : Cond.methodLink RX8 179 yX8_fail ∈ GT := GT_mem 952 (by decide +kernel) (by decide +kernel)
theorem wd_206 : Cond.methodLink RX8 182 yX8_has ∈ GT := GT_mem 948 (by decide +kernel) (by decide +kernel)
theorem wd_207 : Cond.methodLink RX8 191 yX8_fourAt ∈ GT := GT_mem 957 (by decide +kernel) (by decide +kernel)
theorem wd_208 : Cond.fieldLink RX8 221 "GlulxSavesModel" "newM" "I" ∈ GT := GT_mem 749 (by decide +kernel) (by decide +kernel)
theorem wd_209 : Cond.fieldLink RX8 224 "GlulxSavesModel" "newStackLong" "I" ∈ GT := GT_mem 751 (by decide +kernel) (by decide +kernel)
theorem wd_210 : Cond.constantLong RX8 202 (12) ∈ GT := GT_mem 966 (by decide +kernel) (by decide +kernel)
theorem wd_211 : Cond.constantLong RX8 204 (68) ∈ GT := GT_mem 967 (by decide +kernel) (by decide +kernel)
theorem wd_212 : Cond.fieldLink RX8 227 "GlulxSavesModel" "newBlocks" "I" ∈ GT := GT_mem 753 (by decide +kernel) (by decide +kernel)
theorem wd_213 : Cond.constantLong RX8 189 (4) ∈ GT := GT_mem 956 (by decide +kernel) (by decide +kernel)
theorem wd_214 : Cond.fieldLink RX8 197 "GlulxSavesModel" "came" "I" ∈ GT := GT_mem 760 (by decide +kernel) (by decide +kernel)
theorem wd_215 : Cond.constantLong RX8 200 (3) ∈ GT := GT_mem 965 (by decide +kernel) (by decide +kernel)
theorem wd_216 : Cond.fieldLink RX8 206 "GlulxSavesModel" "newOthers" "I" ∈ GT := GT_mem 756 (by decide +kernel) (by decide +kernel)
theorem wd_217 : Cond.methodLink RX8 218 yX8_readBlocks ∈ GT := GT_mem 980 (by decide +kernel) (by decide +kernel)
theorem wd_218 : Cond.methodLink RX8 215 yX8_readStack ∈ GT := GT_mem 976 (by decide +kernel) (by decide +kernel)
theorem wd_219 : Cond.methodLink RX8 212 yX8_readMemory ∈ GT := GT_mem 972 (by decide +kernel) (by decide +kernel)
theorem wd_220 : Cond.methodLink RX8 209 yX8_readHead ∈ GT := GT_mem 968 (by decide +kernel) (by decide +kernel)
theorem wd_221 : Cond.methodLink RX8 186 yX8_letters ∈ GT := GT_mem 944 (by decide +kernel) (by decide +kernel)
theorem wd_222 : Cond.methodLink RX8 194 yX8_readChunk ∈ GT := GT_mem 961 (by decide +kernel) (by decide +kernel)
theorem wd_223 : Cond.methodLink RX8 230 yX8_readAll ∈ GT := GT_mem 940 (by decide +kernel) (by decide +kernel)
theorem wd_224 : Cond.methodLink RX8 243 yX8_isGuarded ∈ GT := GT_mem 984 (by decide +kernel) (by decide +kernel)
theorem wd_225 : Cond.fieldLink RX8 233 "GlulxSavesModel" "wasFault" "Z" ∈ GT := GT_mem 735 (by decide +kernel) (by decide +kernel)
theorem wd_226 : Cond.fieldLink RX8 237 "GlulxSavesModel" "fault" "I" ∈ GT := GT_mem 736 (by decide +kernel) (by decide +kernel)
theorem wd_227 : Cond.fieldLink RX8 240 "GlulxSavesModel" "faultAt" "I" ∈ GT := GT_mem 737 (by decide +kernel) (by decide +kernel)
theorem wd_228 : Cond.fieldLink RX8 246 "GlulxSavesModel" "undos" "I" ∈ GT := GT_mem 738 (by decide +kernel) (by decide +kernel)
theorem wd_229 : Cond.methodLink RX8 249 yX8_move ∈ GT := GT_mem 996 (by decide +kernel) (by decide +kernel)
theorem wd_230 : Cond.constantLong RX8 252 (8) ∈ GT := GT_mem 1024 (by decide +kernel) (by decide +kernel)
theorem wd_231 : Cond.methodLink RX7 1 objectInit ∈ GT := GT_mem 61 (by decide +kernel) (by decide +kernel)
theorem wd_232 : Cond.classLink RX7 7 RX1 ∈ GT := GT_mem 64 (by decide +kernel) (by decide +kernel)
theorem wd_233 : Cond.fieldLink RX7 10 "GlulxSaves" "now" "LGlulxSaves$Machine;" ∈ GT := GT_mem 249 (by decide +kernel) (by decide +kernel)
theorem wd_234 : Cond.fieldLink RX7 16 "GlulxSaves" "fresh" "LGlulxSaves$Machine;" ∈ GT := GT_mem 250 (by decide +kernel) (by decide +kernel)
theorem wd_235 : Cond.classLink RX7 19 RX2 ∈ GT := GT_mem 106 (by decide +kernel) (by decide +kernel)
theorem wd_236 : Cond.fieldLink RX7 22 "GlulxSaves" "others" "LGlulxSaves$Others;" ∈ GT := GT_mem 251 (by decide +kernel) (by decide +kernel)
theorem wd_237 : Cond.classLink RX7 26 RX0 ∈ GT := GT_mem 131 (by decide +kernel) (by decide +kernel)
theorem wd_238 : Cond.instantiable RX0 3 ∈ GT := GT_mem 132 (by decide +kernel) (by decide +kernel)
theorem wd_239 : Cond.initialized RX0 ∈ GT := GT_mem 44 (by decide +kernel) (by decide +kernel)
theorem wd_240 : Cond.fieldLink RX7 29 "GlulxSaves" "file" "LGlulxSaves$Bytes;" ∈ GT := GT_mem 252 (by decide +kernel) (by decide +kernel)
theorem wd_241 : Cond.fieldLink RX7 33 "GlulxSaves" "draft" "LGlulxSaves$Bytes;" ∈ GT := GT_mem 253 (by decide +kernel) (by decide +kernel)
theorem wd_242 : Cond.classLink RX7 36 RX5 ∈ GT := GT_mem 151 (by decide +kernel) (by decide +kernel)
theorem wd_243 : Cond.instantiable RX5 2 ∈ GT := GT_mem 152 (by decide +kernel) (by decide +kernel)
theorem wd_244 : Cond.initialized RX5 ∈ GT := GT_mem 45 (by decide +kernel) (by decide +kernel)
theorem wd_245 : Cond.methodLink RX7 38 yX5_init ∈ GT := GT_mem 153 (by decide +kernel) (by decide +kernel)
theorem wd_246 : Cond.fieldLink RX7 39 "GlulxSaves" "rows" "LGlulxSaves$Undo;" ∈ GT := GT_mem 254 (by decide +kernel) (by decide +kernel)
theorem wd_247 : Cond.fieldLink RX7 43 "GlulxSaves" "protectedFrom" "I" ∈ GT := GT_mem 256 (by decide +kernel) (by decide +kernel)
theorem wd_248 : Cond.fieldLink RX7 47 "GlulxSaves" "protectedBehind" "I" ∈ GT := GT_mem 257 (by decide +kernel) (by decide +kernel)
theorem wd_249 : Cond.fieldLink RX7 50 "GlulxSaves" "latestFault" "I" ∈ GT := GT_mem 258 (by decide +kernel) (by decide +kernel)
theorem wd_250 : Cond.fieldLink RX7 53 "GlulxSaves" "latestPlace" "I" ∈ GT := GT_mem 259 (by decide +kernel) (by decide +kernel)
theorem wd_251 : Cond.classLink RX7 56 RX4 ∈ GT := GT_mem 168 (by decide +kernel) (by decide +kernel)
theorem wd_252 : Cond.instantiable RX4 3 ∈ GT := GT_mem 169 (by decide +kernel) (by decide +kernel)
theorem wd_253 : Cond.initialized RX4 ∈ GT := GT_mem 46 (by decide +kernel) (by decide +kernel)
theorem wd_254 : Cond.methodLink RX7 58 yX4_init ∈ GT := GT_mem 170 (by decide +kernel) (by decide +kernel)
theorem wd_255 : Cond.fieldLink RX7 61 "GlulxSaves" "story" "LGlulxSaves$Story;" ∈ GT := GT_mem 248 (by decide +kernel) (by decide +kernel)
theorem wd_256 : Cond.classLink RX7 65 RX3 ∈ GT := GT_mem 196 (by decide +kernel) (by decide +kernel)
theorem wd_257 : Cond.instantiable RX3 10 ∈ GT := GT_mem 197 (by decide +kernel) (by decide +kernel)
theorem wd_258 : Cond.initialized RX3 ∈ GT := GT_mem 47 (by decide +kernel) (by decide +kernel)
theorem wd_259 : Cond.methodLink RX7 67 yX3_init ∈ GT := GT_mem 198 (by decide +kernel) (by decide +kernel)
theorem wd_260 : Cond.fieldLink RX7 70 "GlulxSaves" "reader" "LGlulxSaves$Reader;" ∈ GT := GT_mem 255 (by decide +kernel) (by decide +kernel)
theorem wd_261 : Cond.methodLink RX7 74 yX1_begin ∈ GT := GT_mem 241 (by decide +kernel) (by decide +kernel)
theorem wd_262 : Cond.methodLink RX7 215 yX1_become ∈ GT := GT_mem 538 (by decide +kernel) (by decide +kernel)
theorem wd_263 : Cond.methodLink RX7 181 yX5_keep ∈ GT := GT_mem 556 (by decide +kernel) (by decide +kernel)
theorem wd_264 : Cond.fieldLink RX7 184 "GlulxSaves$Undo" "count" "I" ∈ GT := GT_mem 162 (by decide +kernel) (by decide +kernel)
theorem wd_265 : Cond.methodLink RX7 187 yX5_takeLatest ∈ GT := GT_mem 569 (by decide +kernel) (by decide +kernel)
theorem wd_266 : Cond.methodLink RX7 173 yX7_bringBack ∈ GT := GT_mem 534 (by decide +kernel) (by decide +kernel)
theorem wd_267 : Cond.fieldLink RX7 77 "GlulxSaves$Machine" "size" "I" ∈ GT := GT_mem 75 (by decide +kernel) (by decide +kernel)
theorem wd_268 : Cond.fieldLink RX7 80 "GlulxSaves$Machine" "memory" "[I" ∈ GT := GT_mem 71 (by decide +kernel) (by decide +kernel)
theorem wd_269 : Cond.fieldLink RX7 84 "GlulxSaves$Story" "ram" "I" ∈ GT := GT_mem 178 (by decide +kernel) (by decide +kernel)
theorem wd_270 : Cond.methodLink RX7 87 yX7_isByte ∈ GT := GT_mem 293 (by decide +kernel) (by decide +kernel)
theorem wd_271 : Cond.methodLink RX7 91 yX4_allowsSize ∈ GT := GT_mem 300 (by decide +kernel) (by decide +kernel)
theorem wd_272 : Cond.methodLink RX7 94 yX1_blocksEnd ∈ GT := GT_mem 304 (by decide +kernel) (by decide +kernel)
theorem wd_273 : Cond.methodLink RX7 98 yX1_changeSize ∈ GT := GT_mem 308 (by decide +kernel) (by decide +kernel)
theorem wd_274 : Cond.methodLink RX7 102 yX1_addInt ∈ GT := GT_mem 316 (by decide +kernel) (by decide +kernel)
theorem wd_275 : Cond.fieldLink RX7 105 "GlulxSaves$Machine" "depth" "I" ∈ GT := GT_mem 81 (by decide +kernel) (by decide +kernel)
theorem wd_276 : Cond.methodLink RX7 118 yX7_isBlockLength ∈ GT := GT_mem 324 (by decide +kernel) (by decide +kernel)
theorem wd_277 : Cond.fieldLink RX7 121 "GlulxSaves$Story" "end" "I" ∈ GT := GT_mem 183 (by decide +kernel) (by decide +kernel)
theorem wd_278 : Cond.methodLink RX7 124 yX1_fits ∈ GT := GT_mem 327 (by decide +kernel) (by decide +kernel)
theorem wd_279 : Cond.methodLink RX7 128 yX1_addBlock ∈ GT := GT_mem 332 (by decide +kernel) (by decide +kernel)
theorem wd_280 : Cond.fieldLink RX7 132 "GlulxSaves$Machine" "blocks" "I" ∈ GT := GT_mem 89 (by decide +kernel) (by decide +kernel)
theorem wd_281 : Cond.methodLink RX7 135 yX1_blockAt ∈ GT := GT_mem 340 (by decide +kernel) (by decide +kernel)
theorem wd_282 : Cond.methodLink RX7 139 yX1_removeBlock ∈ GT := GT_mem 344 (by decide +kernel) (by decide +kernel)
theorem wd_283 : Cond.methodLink RX7 142 yX0_clear ∈ GT := GT_mem 356 (by decide +kernel) (by decide +kernel)
theorem wd_284 : Cond.methodLink RX7 145 yX6_writeFile ∈ GT := GT_mem 360 (by decide +kernel) (by decide +kernel)
theorem wd_285 : Cond.fieldLink RX7 151 "GlulxSaves$Bytes" "overflowed" "Z" ∈ GT := GT_mem 143 (by decide +kernel) (by decide +kernel)
theorem wd_286 : Cond.methodLink RX7 155 yX0_become ∈ GT := GT_mem 413 (by decide +kernel) (by decide +kernel)
theorem wd_287 : Cond.fieldLink RX7 159 "GlulxSaves$Bytes" "size" "I" ∈ GT := GT_mem 141 (by decide +kernel) (by decide +kernel)
theorem wd_288 : Cond.methodLink RX7 160 yX3_read ∈ GT := GT_mem 422 (by decide +kernel) (by decide +kernel)
theorem wd_289 : Cond.fieldLink RX7 170 "GlulxSaves$Reader" "machine" "LGlulxSaves$Machine;" ∈ GT := GT_mem 208 (by decide +kernel) (by decide +kernel)
theorem wd_290 : Cond.fieldLink RX7 177 "GlulxSaves$Reader" "others" "LGlulxSaves$Others;" ∈ GT := GT_mem 210 (by decide +kernel) (by decide +kernel)
theorem wd_291 : Cond.methodLink RX7 178 yX2_become ∈ GT := GT_mem 543 (by decide +kernel) (by decide +kernel)
theorem wd_292 : Cond.fieldLink RX7 164 "GlulxSaves$Reader" "fault" "I" ∈ GT := GT_mem 212 (by decide +kernel) (by decide +kernel)
theorem wd_293 : Cond.fieldLink RX7 167 "GlulxSaves$Reader" "place" "I" ∈ GT := GT_mem 214 (by decide +kernel) (by decide +kernel)
theorem wd_294 : Cond.methodLink RX7 191 yX0_holds ∈ GT := GT_mem 581 (by decide +kernel) (by decide +kernel)
theorem wd_295 : Cond.methodLink RX7 195 yX0_byteAt ∈ GT := GT_mem 582 (by decide +kernel) (by decide +kernel)
theorem wd_296 : Cond.methodLink RX7 198 yX0_setByte ∈ GT := GT_mem 587 (by decide +kernel) (by decide +kernel)
theorem wd_297 : Cond.methodLink RX7 202 yX0_add ∈ GT := GT_mem 596 (by decide +kernel) (by decide +kernel)
theorem wd_298 : Cond.methodLink RX7 205 yX0_setFour ∈ GT := GT_mem 601 (by decide +kernel) (by decide +kernel)
theorem wd_299 : Cond.fieldLink RX7 208 "GlulxSaves$Others" "count" "I" ∈ GT := GT_mem 115 (by decide +kernel) (by decide +kernel)
theorem wd_300 : Cond.methodLink RX7 209 yX2_bytesInAll ∈ GT := GT_mem 606 (by decide +kernel) (by decide +kernel)
theorem wd_301 : Cond.methodLink RX7 212 yX1_number ∈ GT := GT_mem 614 (by decide +kernel) (by decide +kernel)
set_option maxRecDepth 20000 in
theorem wd_302 : Cond.code yX0_setByte cX0_setByte 3 none ∈ GT := GT_mem 375 rfl (by decide +kernel)
theorem wd_303 : Cond.instanceMethod yX0_setByte ∈ GT := GT_mem 373 (by decide +kernel) (by decide +kernel)
theorem wd_304 : Cond.selects RX0 yX0_setByte yX0_setByte ∈ GT := GT_mem 374 (by decide +kernel) (by decide +kernel)
set_option maxRecDepth 20000 in
theorem wd_305 : Cond.code yX0_add cX0_add 2 none ∈ GT := GT_mem 371 rfl (by decide +kernel)
theorem wd_306 : Cond.instanceMethod yX0_add ∈ GT := GT_mem 369 (by decide +kernel) (by decide +kernel)
theorem wd_307 : Cond.selects RX0 yX0_add yX0_add ∈ GT := GT_mem 370 (by decide +kernel) (by decide +kernel)
set_option maxRecDepth 20000 in
theorem wd_308 : Cond.code yX4_inSteps cX4_inSteps 4 (some .boolean) ∈ GT := GT_mem 176 rfl (by decide +kernel)
theorem wd_309 : Cond.static yX4_inSteps ∈ GT := GT_mem 175 (by decide +kernel) (by decide +kernel)
set_option maxRecDepth 20000 in
theorem wd_310 : Cond.code yX7_isBlockLength cX7_isBlockLength 1 (some .boolean) ∈ GT := GT_mem 326 rfl (by decide +kernel)
theorem wd_311 : Cond.initialized RX7 ∈ GT := GT_mem 41 (by decide +kernel) (by decide +kernel)
theorem wd_312 : Cond.static yX7_isBlockLength ∈ GT := GT_mem 325 (by decide +kernel) (by decide +kernel)
set_option maxRecDepth 20000 in
theorem wd_313 : Cond.code yX1_init cX1_init 1 none ∈ GT := GT_mem 68 rfl (by decide +kernel)
theorem wd_314 : Cond.instanceMethod yX1_init ∈ GT := GT_mem 67 (by decide +kernel) (by decide +kernel)
set_option maxRecDepth 20000 in
theorem wd_315 : Cond.code yX1_become cX1_become 7 none ∈ GT := GT_mem 541 rfl (by decide +kernel)
theorem wd_316 : Cond.instanceMethod yX1_become ∈ GT := GT_mem 539 (by decide +kernel) (by decide +kernel)
theorem wd_317 : Cond.selects RX1 yX1_become yX1_become ∈ GT := GT_mem 540 (by decide +kernel) (by decide +kernel)
set_option maxRecDepth 20000 in
theorem wd_318 : Cond.code yX5_dropEldest cX5_dropEldest 3 none ∈ GT := GT_mem 563 rfl (by decide +kernel)
theorem wd_319 : Cond.instanceMethod yX5_dropEldest ∈ GT := GT_mem 562 (by decide +kernel) (by decide +kernel)
theorem wd_320 : Cond.selects RX5 yX5_dropEldest yX5_dropEldest ∈ GT := GT_mem 18 (by decide +kernel) (by decide +kernel)
set_option maxRecDepth 20000 in
theorem wd_321 : Cond.code yX0_fourAt cX0_fourAt 2 (some .int) ∈ GT := GT_mem 464 rfl (by decide +kernel)
theorem wd_322 : Cond.instanceMethod yX0_fourAt ∈ GT := GT_mem 462 (by decide +kernel) (by decide +kernel)
theorem wd_323 : Cond.selects RX0 yX0_fourAt yX0_fourAt ∈ GT := GT_mem 463 (by decide +kernel) (by decide +kernel)
set_option maxRecDepth 20000 in
theorem wd_324 : Cond.code yX0_byteAt cX0_byteAt 2 (some .int) ∈ GT := GT_mem 455 rfl (by decide +kernel)
theorem wd_325 : Cond.instanceMethod yX0_byteAt ∈ GT := GT_mem 453 (by decide +kernel) (by decide +kernel)
theorem wd_326 : Cond.selects RX0 yX0_byteAt yX0_byteAt ∈ GT := GT_mem 454 (by decide +kernel) (by decide +kernel)
set_option maxRecDepth 20000 in
theorem wd_327 : Cond.code yX0_addFour cX0_addFour 3 none ∈ GT := GT_mem 367 rfl (by decide +kernel)
theorem wd_328 : Cond.instanceMethod yX0_addFour ∈ GT := GT_mem 365 (by decide +kernel) (by decide +kernel)
theorem wd_329 : Cond.selects RX0 yX0_addFour yX0_addFour ∈ GT := GT_mem 366 (by decide +kernel) (by decide +kernel)
set_option maxRecDepth 20000 in
theorem wd_330 : Cond.code yX0_setFour cX0_setFour 4 none ∈ GT := GT_mem 391 rfl (by decide +kernel)
theorem wd_331 : Cond.instanceMethod yX0_setFour ∈ GT := GT_mem 389 (by decide +kernel) (by decide +kernel)
theorem wd_332 : Cond.selects RX0 yX0_setFour yX0_setFour ∈ GT := GT_mem 390 (by decide +kernel) (by decide +kernel)
set_option maxRecDepth 20000 in
theorem wd_333 : Cond.code yX6_openChunk cX6_openChunk 3 (some .int) ∈ GT := GT_mem 383 rfl (by decide +kernel)
theorem wd_334 : Cond.initialized RX6 ∈ GT := GT_mem 54 (by decide +kernel) (by decide +kernel)
theorem wd_335 : Cond.static yX6_openChunk ∈ GT := GT_mem 382 (by decide +kernel) (by decide +kernel)
set_option maxRecDepth 20000 in
theorem wd_336 : Cond.code yX6_closeChunk cX6_closeChunk 3 none ∈ GT := GT_mem 387 rfl (by decide +kernel)
theorem wd_337 : Cond.static yX6_closeChunk ∈ GT := GT_mem 386 (by decide +kernel) (by decide +kernel)
set_option maxRecDepth 20000 in
theorem wd_338 : Cond.code yX6_writeZeros cX6_writeZeros 3 none ∈ GT := GT_mem 398 rfl (by decide +kernel)
theorem wd_339 : Cond.static yX6_writeZeros ∈ GT := GT_mem 397 (by decide +kernel) (by decide +kernel)
set_option maxRecDepth 20000 in
theorem wd_340 : Cond.code yX6_writeHead cX6_writeHead 4 none ∈ GT := GT_mem 379 rfl (by decide +kernel)
theorem wd_341 : Cond.static yX6_writeHead ∈ GT := GT_mem 378 (by decide +kernel) (by decide +kernel)
set_option maxRecDepth 20000 in
theorem wd_342 : Cond.code yX6_writeMemory cX6_writeMemory 7 none ∈ GT := GT_mem 394 rfl (by decide +kernel)
theorem wd_343 : Cond.static yX6_writeMemory ∈ GT := GT_mem 393 (by decide +kernel) (by decide +kernel)
set_option maxRecDepth 20000 in
theorem wd_344 : Cond.code yX6_writeStack cX6_writeStack 4 none ∈ GT := GT_mem 404 rfl (by decide +kernel)
theorem wd_345 : Cond.static yX6_writeStack ∈ GT := GT_mem 403 (by decide +kernel) (by decide +kernel)
set_option maxRecDepth 20000 in
theorem wd_346 : Cond.code yX6_writeOthers cX6_writeOthers 5 none ∈ GT := GT_mem 412 rfl (by decide +kernel)
theorem wd_347 : Cond.static yX6_writeOthers ∈ GT := GT_mem 411 (by decide +kernel) (by decide +kernel)
set_option maxRecDepth 20000 in
theorem wd_348 : Cond.code yX6_writeBlocks cX6_writeBlocks 4 none ∈ GT := GT_mem 408 rfl (by decide +kernel)
theorem wd_349 : Cond.static yX6_writeBlocks ∈ GT := GT_mem 407 (by decide +kernel) (by decide +kernel)
set_option maxRecDepth 20000 in
theorem wd_350 : Cond.code yX2_init cX2_init 1 none ∈ GT := GT_mem 110 rfl (by decide +kernel)
theorem wd_351 : Cond.instanceMethod yX2_init ∈ GT := GT_mem 109 (by decide +kernel) (by decide +kernel)
set_option maxRecDepth 20000 in
theorem wd_352 : Cond.code yX1_begin cX1_begin 2 none ∈ GT := GT_mem 244 rfl (by decide +kernel)
theorem wd_353 : Cond.instanceMethod yX1_begin ∈ GT := GT_mem 242 (by decide +kernel) (by decide +kernel)
theorem wd_354 : Cond.selects RX1 yX1_begin yX1_begin ∈ GT := GT_mem 243 (by decide +kernel) (by decide +kernel)
set_option maxRecDepth 20000 in
theorem wd_355 : Cond.code yX0_holds cX0_holds 4 (some .boolean) ∈ GT := GT_mem 447 rfl (by decide +kernel)
theorem wd_356 : Cond.instanceMethod yX0_holds ∈ GT := GT_mem 445 (by decide +kernel) (by decide +kernel)
theorem wd_357 : Cond.selects RX0 yX0_holds yX0_holds ∈ GT := GT_mem 446 (by decide +kernel) (by decide +kernel)
set_option maxRecDepth 20000 in
theorem wd_358 : Cond.code yX3_fail cX3_fail 3 (some .boolean) ∈ GT := GT_mem 451 rfl (by decide +kernel)
theorem wd_359 : Cond.instanceMethod yX3_fail ∈ GT := GT_mem 450 (by decide +kernel) (by decide +kernel)
theorem wd_360 : Cond.selects RX3 yX3_fail yX3_fail ∈ GT := GT_mem 4 (by decide +kernel) (by decide +kernel)
set_option maxRecDepth 20000 in
theorem wd_361 : Cond.code yX3_reaches cX3_reaches 5 (some .boolean) ∈ GT := GT_mem 443 rfl (by decide +kernel)
theorem wd_362 : Cond.instanceMethod yX3_reaches ∈ GT := GT_mem 442 (by decide +kernel) (by decide +kernel)
theorem wd_363 : Cond.selects RX3 yX3_reaches yX3_reaches ∈ GT := GT_mem 3 (by decide +kernel) (by decide +kernel)
set_option maxRecDepth 20000 in
theorem wd_364 : Cond.code yX3_readLetters cX3_readLetters 5 (some .boolean) ∈ GT := GT_mem 439 rfl (by decide +kernel)
theorem wd_365 : Cond.instanceMethod yX3_readLetters ∈ GT := GT_mem 438 (by decide +kernel) (by decide +kernel)
theorem wd_366 : Cond.selects RX3 yX3_readLetters yX3_readLetters ∈ GT := GT_mem 2 (by decide +kernel) (by decide +kernel)
set_option maxRecDepth 20000 in
theorem wd_367 : Cond.code yX3_readWholeLength cX3_readWholeLength 2 (some .boolean) ∈ GT := GT_mem 460 rfl (by decide +kernel)
theorem wd_368 : Cond.instanceMethod yX3_readWholeLength ∈ GT := GT_mem 459 (by decide +kernel) (by decide +kernel)
theorem wd_369 : Cond.selects RX3 yX3_readWholeLength yX3_readWholeLength ∈ GT := GT_mem 5 (by decide +kernel) (by decide +kernel)
set_option maxRecDepth 20000 in
theorem wd_370 : Cond.code yX3_wasSeen cX3_wasSeen 2 (some .boolean) ∈ GT := GT_mem 477 rfl (by decide +kernel)
theorem wd_371 : Cond.instanceMethod yX3_wasSeen ∈ GT := GT_mem 476 (by decide +kernel) (by decide +kernel)
theorem wd_372 : Cond.selects RX3 yX3_wasSeen yX3_wasSeen ∈ GT := GT_mem 8 (by decide +kernel) (by decide +kernel)
set_option maxRecDepth 20000 in
theorem wd_373 : Cond.code yX3_lengthIsRight cX3_lengthIsRight 2 (some .boolean) ∈ GT := GT_mem 487 rfl (by decide +kernel)
theorem wd_374 : Cond.static yX3_lengthIsRight ∈ GT := GT_mem 486 (by decide +kernel) (by decide +kernel)
set_option maxRecDepth 20000 in
theorem wd_375 : Cond.code yX3_isKnown cX3_isKnown 1 (some .boolean) ∈ GT := GT_mem 490 rfl (by decide +kernel)
theorem wd_376 : Cond.static yX3_isKnown ∈ GT := GT_mem 489 (by decide +kernel) (by decide +kernel)
set_option maxRecDepth 20000 in
theorem wd_377 : Cond.code yX4_allowsSize cX4_allowsSize 2 (some .boolean) ∈ GT := GT_mem 303 rfl (by decide +kernel)
theorem wd_378 : Cond.instanceMethod yX4_allowsSize ∈ GT := GT_mem 301 (by decide +kernel) (by decide +kernel)
theorem wd_379 : Cond.selects RX4 yX4_allowsSize yX4_allowsSize ∈ GT := GT_mem 302 (by decide +kernel) (by decide +kernel)
set_option maxRecDepth 20000 in
theorem wd_380 : Cond.code yX1_addInt cX1_addInt 2 (some .boolean) ∈ GT := GT_mem 319 rfl (by decide +kernel)
theorem wd_381 : Cond.instanceMethod yX1_addInt ∈ GT := GT_mem 317 (by decide +kernel) (by decide +kernel)
theorem wd_382 : Cond.selects RX1 yX1_addInt yX1_addInt ∈ GT := GT_mem 318 (by decide +kernel) (by decide +kernel)
set_option maxRecDepth 20000 in
theorem wd_383 : Cond.code yX1_blocksEnd cX1_blocksEnd 1 (some .int) ∈ GT := GT_mem 307 rfl (by decide +kernel)
theorem wd_384 : Cond.instanceMethod yX1_blocksEnd ∈ GT := GT_mem 305 (by decide +kernel) (by decide +kernel)
theorem wd_385 : Cond.selects RX1 yX1_blocksEnd yX1_blocksEnd ∈ GT := GT_mem 306 (by decide +kernel) (by decide +kernel)
set_option maxRecDepth 20000 in
theorem wd_386 : Cond.code yX1_fits cX1_fits 5 (some .boolean) ∈ GT := GT_mem 330 rfl (by decide +kernel)
theorem wd_387 : Cond.instanceMethod yX1_fits ∈ GT := GT_mem 328 (by decide +kernel) (by decide +kernel)
theorem wd_388 : Cond.selects RX1 yX1_fits yX1_fits ∈ GT := GT_mem 329 (by decide +kernel) (by decide +kernel)
set_option maxRecDepth 20000 in
theorem wd_389 : Cond.code yX1_addBlock cX1_addBlock 4 (some .boolean) ∈ GT := GT_mem 335 rfl (by decide +kernel)
theorem wd_390 : Cond.instanceMethod yX1_addBlock ∈ GT := GT_mem 333 (by decide +kernel) (by decide +kernel)
theorem wd_391 : Cond.selects RX1 yX1_addBlock yX1_addBlock ∈ GT := GT_mem 334 (by decide +kernel) (by decide +kernel)
set_option maxRecDepth 20000 in
theorem wd_392 : Cond.code yX3_readSize cX3_readSize 4 (some .boolean) ∈ GT := GT_mem 507 rfl (by decide +kernel)
theorem wd_393 : Cond.instanceMethod yX3_readSize ∈ GT := GT_mem 506 (by decide +kernel) (by decide +kernel)
theorem wd_394 : Cond.selects RX3 yX3_readSize yX3_readSize ∈ GT := GT_mem 13 (by decide +kernel) (by decide +kernel)
set_option maxRecDepth 20000 in
theorem wd_395 : Cond.code yX3_readMemory cX3_readMemory 9 (some .boolean) ∈ GT := GT_mem 512 rfl (by decide +kernel)
theorem wd_396 : Cond.instanceMethod yX3_readMemory ∈ GT := GT_mem 511 (by decide +kernel) (by decide +kernel)
theorem wd_397 : Cond.selects RX3 yX3_readMemory yX3_readMemory ∈ GT := GT_mem 14 (by decide +kernel) (by decide +kernel)
set_option maxRecDepth 20000 in
theorem wd_398 : Cond.code yX3_readHead cX3_readHead 4 (some .boolean) ∈ GT := GT_mem 503 rfl (by decide +kernel)
theorem wd_399 : Cond.instanceMethod yX3_readHead ∈ GT := GT_mem 502 (by decide +kernel) (by decide +kernel)
theorem wd_400 : Cond.selects RX3 yX3_readHead yX3_readHead ∈ GT := GT_mem 12 (by decide +kernel) (by decide +kernel)
set_option maxRecDepth 20000 in
theorem wd_401 : Cond.code yX3_readBlocks cX3_readBlocks 9 (some .boolean) ∈ GT := GT_mem 521 rfl (by decide +kernel)
theorem wd_402 : Cond.instanceMethod yX3_readBlocks ∈ GT := GT_mem 520 (by decide +kernel) (by decide +kernel)
theorem wd_403 : Cond.selects RX3 yX3_readBlocks yX3_readBlocks ∈ GT := GT_mem 16 (by decide +kernel) (by decide +kernel)
set_option maxRecDepth 20000 in
theorem wd_404 : Cond.code yX3_readStack cX3_readStack 5 (some .boolean) ∈ GT := GT_mem 516 rfl (by decide +kernel)
theorem wd_405 : Cond.instanceMethod yX3_readStack ∈ GT := GT_mem 515 (by decide +kernel) (by decide +kernel)
theorem wd_406 : Cond.selects RX3 yX3_readStack yX3_readStack ∈ GT := GT_mem 15 (by decide +kernel) (by decide +kernel)
set_option maxRecDepth 20000 in
theorem wd_407 : Cond.code yX2_addFrom cX2_addFrom 5 none ∈ GT := GT_mem 531 rfl (by decide +kernel)
theorem wd_408 : Cond.instanceMethod yX2_addFrom ∈ GT := GT_mem 529 (by decide +kernel) (by decide +kernel)
theorem wd_409 : Cond.selects RX2 yX2_addFrom yX2_addFrom ∈ GT := GT_mem 530 (by decide +kernel) (by decide +kernel)
set_option maxRecDepth 20000 in
theorem wd_410 : Cond.code yX3_mayCome cX3_mayCome 4 (some .boolean) ∈ GT := GT_mem 473 rfl (by decide +kernel)
theorem wd_411 : Cond.instanceMethod yX3_mayCome ∈ GT := GT_mem 472 (by decide +kernel) (by decide +kernel)
theorem wd_412 : Cond.selects RX3 yX3_mayCome yX3_mayCome ∈ GT := GT_mem 7 (by decide +kernel) (by decide +kernel)
set_option maxRecDepth 20000 in
theorem wd_413 : Cond.code yX3_lengthMayBe cX3_lengthMayBe 4 (some .boolean) ∈ GT := GT_mem 484 rfl (by decide +kernel)
theorem wd_414 : Cond.instanceMethod yX3_lengthMayBe ∈ GT := GT_mem 483 (by decide +kernel) (by decide +kernel)
theorem wd_415 : Cond.selects RX3 yX3_lengthMayBe yX3_lengthMayBe ∈ GT := GT_mem 9 (by decide +kernel) (by decide +kernel)
set_option maxRecDepth 20000 in
theorem wd_416 : Cond.code yX3_isWhole cX3_isWhole 6 (some .boolean) ∈ GT := GT_mem 495 rfl (by decide +kernel)
theorem wd_417 : Cond.instanceMethod yX3_isWhole ∈ GT := GT_mem 494 (by decide +kernel) (by decide +kernel)
theorem wd_418 : Cond.selects RX3 yX3_isWhole yX3_isWhole ∈ GT := GT_mem 10 (by decide +kernel) (by decide +kernel)
set_option maxRecDepth 20000 in
theorem wd_419 : Cond.code yX3_readInside cX3_readInside 6 (some .boolean) ∈ GT := GT_mem 499 rfl (by decide +kernel)
theorem wd_420 : Cond.instanceMethod yX3_readInside ∈ GT := GT_mem 498 (by decide +kernel) (by decide +kernel)
theorem wd_421 : Cond.selects RX3 yX3_readInside yX3_readInside ∈ GT := GT_mem 11 (by decide +kernel) (by decide +kernel)
set_option maxRecDepth 20000 in
theorem wd_422 : Cond.code yX3_forget cX3_forget 1 none ∈ GT := GT_mem 429 rfl (by decide +kernel)
theorem wd_423 : Cond.instanceMethod yX3_forget ∈ GT := GT_mem 428 (by decide +kernel) (by decide +kernel)
theorem wd_424 : Cond.selects RX3 yX3_forget yX3_forget ∈ GT := GT_mem 0 (by decide +kernel) (by decide +kernel)
set_option maxRecDepth 20000 in
theorem wd_425 : Cond.code yX3_readFront cX3_readFront 2 (some .boolean) ∈ GT := GT_mem 434 rfl (by decide +kernel)
theorem wd_426 : Cond.instanceMethod yX3_readFront ∈ GT := GT_mem 433 (by decide +kernel) (by decide +kernel)
theorem wd_427 : Cond.selects RX3 yX3_readFront yX3_readFront ∈ GT := GT_mem 1 (by decide +kernel) (by decide +kernel)
set_option maxRecDepth 20000 in
theorem wd_428 : Cond.code yX3_readChunk cX3_readChunk 5 (some .boolean) ∈ GT := GT_mem 469 rfl (by decide +kernel)
theorem wd_429 : Cond.instanceMethod yX3_readChunk ∈ GT := GT_mem 468 (by decide +kernel) (by decide +kernel)
theorem wd_430 : Cond.selects RX3 yX3_readChunk yX3_readChunk ∈ GT := GT_mem 6 (by decide +kernel) (by decide +kernel)
set_option maxRecDepth 20000 in
theorem wd_431 : Cond.code yX8_in cX8_in 6 (some .boolean) ∈ GT := GT_mem 709 rfl (by decide +kernel)
theorem wd_432 : Cond.initialized RX8 ∈ GT := GT_mem 49 (by decide +kernel) (by decide +kernel)
theorem wd_433 : Cond.static yX8_in ∈ GT := GT_mem 708 (by decide +kernel) (by decide +kernel)
set_option maxRecDepth 20000 in
theorem wd_434 : Cond.code yX8_original cX8_original 2 (some .int) ∈ GT := GT_mem 715 rfl (by decide +kernel)
theorem wd_435 : Cond.instanceMethod yX8_original ∈ GT := GT_mem 714 (by decide +kernel) (by decide +kernel)
theorem wd_436 : Cond.selects RX8 yX8_original yX8_original ∈ GT := GT_mem 20 (by decide +kernel) (by decide +kernel)
set_option maxRecDepth 20000 in
theorem wd_437 : Cond.code yX8_isSize cX8_isSize 2 (some .boolean) ∈ GT := GT_mem 878 rfl (by decide +kernel)
theorem wd_438 : Cond.instanceMethod yX8_isSize ∈ GT := GT_mem 877 (by decide +kernel) (by decide +kernel)
theorem wd_439 : Cond.selects RX8 yX8_isSize yX8_isSize ∈ GT := GT_mem 21 (by decide +kernel) (by decide +kernel)
set_option maxRecDepth 20000 in
theorem wd_440 : Cond.code yX8_put cX8_put 2 none ∈ GT := GT_mem 914 rfl (by decide +kernel)
theorem wd_441 : Cond.instanceMethod yX8_put ∈ GT := GT_mem 913 (by decide +kernel) (by decide +kernel)
theorem wd_442 : Cond.selects RX8 yX8_put yX8_put ∈ GT := GT_mem 23 (by decide +kernel) (by decide +kernel)
set_option maxRecDepth 20000 in
theorem wd_443 : Cond.code yX8_putFour cX8_putFour 2 none ∈ GT := GT_mem 910 rfl (by decide +kernel)
theorem wd_444 : Cond.instanceMethod yX8_putFour ∈ GT := GT_mem 909 (by decide +kernel) (by decide +kernel)
theorem wd_445 : Cond.selects RX8 yX8_putFour yX8_putFour ∈ GT := GT_mem 22 (by decide +kernel) (by decide +kernel)
set_option maxRecDepth 20000 in
theorem wd_446 : Cond.code yX8_putAt cX8_putAt 4 none ∈ GT := GT_mem 928 rfl (by decide +kernel)
theorem wd_447 : Cond.instanceMethod yX8_putAt ∈ GT := GT_mem 927 (by decide +kernel) (by decide +kernel)
theorem wd_448 : Cond.selects RX8 yX8_putAt yX8_putAt ∈ GT := GT_mem 26 (by decide +kernel) (by decide +kernel)
set_option maxRecDepth 20000 in
theorem wd_449 : Cond.code yX8_chunk cX8_chunk 2 (some .int) ∈ GT := GT_mem 920 rfl (by decide +kernel)
theorem wd_450 : Cond.instanceMethod yX8_chunk ∈ GT := GT_mem 919 (by decide +kernel) (by decide +kernel)
theorem wd_451 : Cond.selects RX8 yX8_chunk yX8_chunk ∈ GT := GT_mem 24 (by decide +kernel) (by decide +kernel)
set_option maxRecDepth 20000 in
theorem wd_452 : Cond.code yX8_close cX8_close 3 none ∈ GT := GT_mem 924 rfl (by decide +kernel)
theorem wd_453 : Cond.instanceMethod yX8_close ∈ GT := GT_mem 923 (by decide +kernel) (by decide +kernel)
theorem wd_454 : Cond.selects RX8 yX8_close yX8_close ∈ GT := GT_mem 25 (by decide +kernel) (by decide +kernel)
set_option maxRecDepth 20000 in
theorem wd_455 : Cond.code yX8_putMemory cX8_putMemory 6 none ∈ GT := GT_mem 932 rfl (by decide +kernel)
theorem wd_456 : Cond.instanceMethod yX8_putMemory ∈ GT := GT_mem 931 (by decide +kernel) (by decide +kernel)
theorem wd_457 : Cond.selects RX8 yX8_putMemory yX8_putMemory ∈ GT := GT_mem 27 (by decide +kernel) (by decide +kernel)
set_option maxRecDepth 20000 in
theorem wd_458 : Cond.code yX8_fail cX8_fail 3 none ∈ GT := GT_mem 955 rfl (by decide +kernel)
theorem wd_459 : Cond.instanceMethod yX8_fail ∈ GT := GT_mem 954 (by decide +kernel) (by decide +kernel)
theorem wd_460 : Cond.selects RX8 yX8_fail yX8_fail ∈ GT := GT_mem 31 (by decide +kernel) (by decide +kernel)
set_option maxRecDepth 20000 in
theorem wd_461 : Cond.code yX8_has cX8_has 3 (some .boolean) ∈ GT := GT_mem 951 rfl (by decide +kernel)
theorem wd_462 : Cond.instanceMethod yX8_has ∈ GT := GT_mem 950 (by decide +kernel) (by decide +kernel)
theorem wd_463 : Cond.selects RX8 yX8_has yX8_has ∈ GT := GT_mem 30 (by decide +kernel) (by decide +kernel)
set_option maxRecDepth 20000 in
theorem wd_464 : Cond.code yX8_fourAt cX8_fourAt 2 (some .int) ∈ GT := GT_mem 960 rfl (by decide +kernel)
theorem wd_465 : Cond.instanceMethod yX8_fourAt ∈ GT := GT_mem 959 (by decide +kernel) (by decide +kernel)
theorem wd_466 : Cond.selects RX8 yX8_fourAt yX8_fourAt ∈ GT := GT_mem 32 (by decide +kernel) (by decide +kernel)
set_option maxRecDepth 20000 in
theorem wd_467 : Cond.code yX8_readBlocks cX8_readBlocks 5 none ∈ GT := GT_mem 983 rfl (by decide +kernel)
theorem wd_468 : Cond.instanceMethod yX8_readBlocks ∈ GT := GT_mem 982 (by decide +kernel) (by decide +kernel)
theorem wd_469 : Cond.selects RX8 yX8_readBlocks yX8_readBlocks ∈ GT := GT_mem 37 (by decide +kernel) (by decide +kernel)
set_option maxRecDepth 20000 in
theorem wd_470 : Cond.code yX8_readStack cX8_readStack 3 none ∈ GT := GT_mem 979 rfl (by decide +kernel)
theorem wd_471 : Cond.instanceMethod yX8_readStack ∈ GT := GT_mem 978 (by decide +kernel) (by decide +kernel)
theorem wd_472 : Cond.selects RX8 yX8_readStack yX8_readStack ∈ GT := GT_mem 36 (by decide +kernel) (by decide +kernel)
set_option maxRecDepth 20000 in
theorem wd_473 : Cond.code yX8_readMemory cX8_readMemory 5 none ∈ GT := GT_mem 975 rfl (by decide +kernel)
theorem wd_474 : Cond.instanceMethod yX8_readMemory ∈ GT := GT_mem 974 (by decide +kernel) (by decide +kernel)
theorem wd_475 : Cond.selects RX8 yX8_readMemory yX8_readMemory ∈ GT := GT_mem 35 (by decide +kernel) (by decide +kernel)
set_option maxRecDepth 20000 in
theorem wd_476 : Cond.code yX8_readHead cX8_readHead 3 none ∈ GT := GT_mem 971 rfl (by decide +kernel)
theorem wd_477 : Cond.instanceMethod yX8_readHead ∈ GT := GT_mem 970 (by decide +kernel) (by decide +kernel)
theorem wd_478 : Cond.selects RX8 yX8_readHead yX8_readHead ∈ GT := GT_mem 34 (by decide +kernel) (by decide +kernel)
set_option maxRecDepth 20000 in
theorem wd_479 : Cond.code yX8_letters cX8_letters 3 none ∈ GT := GT_mem 947 rfl (by decide +kernel)
theorem wd_480 : Cond.instanceMethod yX8_letters ∈ GT := GT_mem 946 (by decide +kernel) (by decide +kernel)
theorem wd_481 : Cond.selects RX8 yX8_letters yX8_letters ∈ GT := GT_mem 29 (by decide +kernel) (by decide +kernel)
set_option maxRecDepth 20000 in
theorem wd_482 : Cond.code yX8_readChunk cX8_readChunk 7 none ∈ GT := GT_mem 964 rfl (by decide +kernel)
theorem wd_483 : Cond.instanceMethod yX8_readChunk ∈ GT := GT_mem 963 (by decide +kernel) (by decide +kernel)
theorem wd_484 : Cond.selects RX8 yX8_readChunk yX8_readChunk ∈ GT := GT_mem 33 (by decide +kernel) (by decide +kernel)
set_option maxRecDepth 20000 in
theorem wd_485 : Cond.code yX8_readAll cX8_readAll 1 none ∈ GT := GT_mem 943 rfl (by decide +kernel)
theorem wd_486 : Cond.instanceMethod yX8_readAll ∈ GT := GT_mem 942 (by decide +kernel) (by decide +kernel)
theorem wd_487 : Cond.selects RX8 yX8_readAll yX8_readAll ∈ GT := GT_mem 28 (by decide +kernel) (by decide +kernel)
set_option maxRecDepth 20000 in
theorem wd_488 : Cond.code yX8_isGuarded cX8_isGuarded 2 (some .boolean) ∈ GT := GT_mem 987 rfl (by decide +kernel)
theorem wd_489 : Cond.instanceMethod yX8_isGuarded ∈ GT := GT_mem 986 (by decide +kernel) (by decide +kernel)
theorem wd_490 : Cond.selects RX8 yX8_isGuarded yX8_isGuarded ∈ GT := GT_mem 38 (by decide +kernel) (by decide +kernel)
set_option maxRecDepth 20000 in
theorem wd_491 : Cond.code yX8_move cX8_move 4 none ∈ GT := GT_mem 999 rfl (by decide +kernel)
theorem wd_492 : Cond.instanceMethod yX8_move ∈ GT := GT_mem 998 (by decide +kernel) (by decide +kernel)
theorem wd_493 : Cond.selects RX8 yX8_move yX8_move ∈ GT := GT_mem 39 (by decide +kernel) (by decide +kernel)
set_option maxRecDepth 20000 in
theorem wd_494 : Cond.code yX0_init cX0_init 1 none ∈ GT := GT_mem 135 rfl (by decide +kernel)
theorem wd_495 : Cond.instanceMethod yX0_init ∈ GT := GT_mem 134 (by decide +kernel) (by decide +kernel)
set_option maxRecDepth 20000 in
theorem wd_496 : Cond.code yX5_init cX5_init 2 none ∈ GT := GT_mem 155 rfl (by decide +kernel)
theorem wd_497 : Cond.instanceMethod yX5_init ∈ GT := GT_mem 154 (by decide +kernel) (by decide +kernel)
set_option maxRecDepth 20000 in
theorem wd_498 : Cond.code yX4_init cX4_init 5 none ∈ GT := GT_mem 172 rfl (by decide +kernel)
theorem wd_499 : Cond.instanceMethod yX4_init ∈ GT := GT_mem 171 (by decide +kernel) (by decide +kernel)
set_option maxRecDepth 20000 in
theorem wd_500 : Cond.code yX3_init cX3_init 2 none ∈ GT := GT_mem 200 rfl (by decide +kernel)
theorem wd_501 : Cond.instanceMethod yX3_init ∈ GT := GT_mem 199 (by decide +kernel) (by decide +kernel)
set_option maxRecDepth 20000 in
theorem wd_502 : Cond.code yX5_keep cX5_keep 2 none ∈ GT := GT_mem 559 rfl (by decide +kernel)
theorem wd_503 : Cond.instanceMethod yX5_keep ∈ GT := GT_mem 557 (by decide +kernel) (by decide +kernel)
theorem wd_504 : Cond.selects RX5 yX5_keep yX5_keep ∈ GT := GT_mem 558 (by decide +kernel) (by decide +kernel)
set_option maxRecDepth 20000 in
theorem wd_505 : Cond.code yX5_takeLatest cX5_takeLatest 1 (some (.object "GlulxSaves$Machine")) ∈ GT := GT_mem 572 rfl (by decide +kernel)
theorem wd_506 : Cond.instanceMethod yX5_takeLatest ∈ GT := GT_mem 570 (by decide +kernel) (by decide +kernel)
theorem wd_507 : Cond.selects RX5 yX5_takeLatest yX5_takeLatest ∈ GT := GT_mem 571 (by decide +kernel) (by decide +kernel)
set_option maxRecDepth 20000 in
theorem wd_508 : Cond.code yX7_bringBack cX7_bringBack 2 none ∈ GT := GT_mem 537 rfl (by decide +kernel)
theorem wd_509 : Cond.instanceMethod yX7_bringBack ∈ GT := GT_mem 536 (by decide +kernel) (by decide +kernel)
theorem wd_510 : Cond.selects RX7 yX7_bringBack yX7_bringBack ∈ GT := GT_mem 17 (by decide +kernel) (by decide +kernel)
set_option maxRecDepth 20000 in
theorem wd_511 : Cond.code yX7_isByte cX7_isByte 1 (some .boolean) ∈ GT := GT_mem 295 rfl (by decide +kernel)
theorem wd_512 : Cond.static yX7_isByte ∈ GT := GT_mem 294 (by decide +kernel) (by decide +kernel)
set_option maxRecDepth 20000 in
theorem wd_513 : Cond.code yX1_changeSize cX1_changeSize 3 none ∈ GT := GT_mem 311 rfl (by decide +kernel)
theorem wd_514 : Cond.instanceMethod yX1_changeSize ∈ GT := GT_mem 309 (by decide +kernel) (by decide +kernel)
theorem wd_515 : Cond.selects RX1 yX1_changeSize yX1_changeSize ∈ GT := GT_mem 310 (by decide +kernel) (by decide +kernel)
set_option maxRecDepth 20000 in
theorem wd_516 : Cond.code yX1_blockAt cX1_blockAt 3 (some .int) ∈ GT := GT_mem 343 rfl (by decide +kernel)
theorem wd_517 : Cond.instanceMethod yX1_blockAt ∈ GT := GT_mem 341 (by decide +kernel) (by decide +kernel)
theorem wd_518 : Cond.selects RX1 yX1_blockAt yX1_blockAt ∈ GT := GT_mem 342 (by decide +kernel) (by decide +kernel)
set_option maxRecDepth 20000 in
theorem wd_519 : Cond.code yX1_removeBlock cX1_removeBlock 4 (some .int) ∈ GT := GT_mem 347 rfl (by decide +kernel)
theorem wd_520 : Cond.instanceMethod yX1_removeBlock ∈ GT := GT_mem 345 (by decide +kernel) (by decide +kernel)
theorem wd_521 : Cond.selects RX1 yX1_removeBlock yX1_removeBlock ∈ GT := GT_mem 346 (by decide +kernel) (by decide +kernel)
set_option maxRecDepth 20000 in
theorem wd_522 : Cond.code yX0_clear cX0_clear 1 none ∈ GT := GT_mem 359 rfl (by decide +kernel)
theorem wd_523 : Cond.instanceMethod yX0_clear ∈ GT := GT_mem 357 (by decide +kernel) (by decide +kernel)
theorem wd_524 : Cond.selects RX0 yX0_clear yX0_clear ∈ GT := GT_mem 358 (by decide +kernel) (by decide +kernel)
set_option maxRecDepth 20000 in
theorem wd_525 : Cond.code yX6_writeFile cX6_writeFile 4 none ∈ GT := GT_mem 362 rfl (by decide +kernel)
theorem wd_526 : Cond.static yX6_writeFile ∈ GT := GT_mem 361 (by decide +kernel) (by decide +kernel)
set_option maxRecDepth 20000 in
theorem wd_527 : Cond.code yX0_become cX0_become 2 none ∈ GT := GT_mem 416 rfl (by decide +kernel)
theorem wd_528 : Cond.instanceMethod yX0_become ∈ GT := GT_mem 414 (by decide +kernel) (by decide +kernel)
theorem wd_529 : Cond.selects RX0 yX0_become yX0_become ∈ GT := GT_mem 415 (by decide +kernel) (by decide +kernel)
set_option maxRecDepth 20000 in
theorem wd_530 : Cond.code yX3_read cX3_read 3 (some .boolean) ∈ GT := GT_mem 425 rfl (by decide +kernel)
theorem wd_531 : Cond.instanceMethod yX3_read ∈ GT := GT_mem 423 (by decide +kernel) (by decide +kernel)
theorem wd_532 : Cond.selects RX3 yX3_read yX3_read ∈ GT := GT_mem 424 (by decide +kernel) (by decide +kernel)
set_option maxRecDepth 20000 in
theorem wd_533 : Cond.code yX2_become cX2_become 2 none ∈ GT := GT_mem 546 rfl (by decide +kernel)
theorem wd_534 : Cond.instanceMethod yX2_become ∈ GT := GT_mem 544 (by decide +kernel) (by decide +kernel)
theorem wd_535 : Cond.selects RX2 yX2_become yX2_become ∈ GT := GT_mem 545 (by decide +kernel) (by decide +kernel)
set_option maxRecDepth 20000 in
theorem wd_536 : Cond.code yX2_bytesInAll cX2_bytesInAll 3 (some .int) ∈ GT := GT_mem 609 rfl (by decide +kernel)
theorem wd_537 : Cond.instanceMethod yX2_bytesInAll ∈ GT := GT_mem 607 (by decide +kernel) (by decide +kernel)
theorem wd_538 : Cond.selects RX2 yX2_bytesInAll yX2_bytesInAll ∈ GT := GT_mem 608 (by decide +kernel) (by decide +kernel)
set_option maxRecDepth 20000 in
theorem wd_539 : Cond.code yX1_number cX1_number 3 (some .int) ∈ GT := GT_mem 617 rfl (by decide +kernel)
theorem wd_540 : Cond.instanceMethod yX1_number ∈ GT := GT_mem 615 (by decide +kernel) (by decide +kernel)
theorem wd_541 : Cond.selects RX1 yX1_number yX1_number ∈ GT := GT_mem 616 (by decide +kernel) (by decide +kernel)
set_option maxRecDepth 20000 in
theorem wd_542 : Cond.code yX1_takeInt cX1_takeInt 1 (some .int) ∈ GT := GT_mem 698 rfl (by decide +kernel)
theorem wd_543 : Cond.instanceMethod yX1_takeInt ∈ GT := GT_mem 696 (by decide +kernel) (by decide +kernel)
theorem wd_544 : Cond.selects RX1 yX1_takeInt yX1_takeInt ∈ GT := GT_mem 697 (by decide +kernel) (by decide +kernel)
set_option maxRecDepth 20000 in
theorem wd_545 : Cond.code yX8_init cX8_init 5 none ∈ GT := GT_mem 703 rfl (by decide +kernel)
theorem wd_546 : Cond.instanceMethod yX8_init ∈ GT := GT_mem 702 (by decide +kernel) (by decide +kernel)
set_option maxRecDepth 20000 in
theorem wd_547 : Cond.code yX8_thrown cX8_thrown 1 (some .int) ∈ GT := GT_mem 861 rfl (by decide +kernel)
theorem wd_548 : Cond.instanceMethod yX8_thrown ∈ GT := GT_mem 859 (by decide +kernel) (by decide +kernel)
theorem wd_549 : Cond.selects RX8 yX8_thrown yX8_thrown ∈ GT := GT_mem 860 (by decide +kernel) (by decide +kernel)
set_option maxRecDepth 20000 in
theorem wd_550 : Cond.code yX8_peek cX8_peek 2 (some .int) ∈ GT := GT_mem 865 rfl (by decide +kernel)
theorem wd_551 : Cond.instanceMethod yX8_peek ∈ GT := GT_mem 863 (by decide +kernel) (by decide +kernel)
theorem wd_552 : Cond.selects RX8 yX8_peek yX8_peek ∈ GT := GT_mem 864 (by decide +kernel) (by decide +kernel)
set_option maxRecDepth 20000 in
theorem wd_553 : Cond.code yX8_poke cX8_poke 4 (some .int) ∈ GT := GT_mem 869 rfl (by decide +kernel)
theorem wd_554 : Cond.instanceMethod yX8_poke ∈ GT := GT_mem 867 (by decide +kernel) (by decide +kernel)
theorem wd_555 : Cond.selects RX8 yX8_poke yX8_poke ∈ GT := GT_mem 868 (by decide +kernel) (by decide +kernel)
set_option maxRecDepth 20000 in
theorem wd_556 : Cond.code yX8_resize cX8_resize 4 (some .int) ∈ GT := GT_mem 874 rfl (by decide +kernel)
theorem wd_557 : Cond.instanceMethod yX8_resize ∈ GT := GT_mem 872 (by decide +kernel) (by decide +kernel)
theorem wd_558 : Cond.selects RX8 yX8_resize yX8_resize ∈ GT := GT_mem 873 (by decide +kernel) (by decide +kernel)
set_option maxRecDepth 20000 in
theorem wd_559 : Cond.code yX8_push cX8_push 2 (some .int) ∈ GT := GT_mem 883 rfl (by decide +kernel)
theorem wd_560 : Cond.instanceMethod yX8_push ∈ GT := GT_mem 881 (by decide +kernel) (by decide +kernel)
theorem wd_561 : Cond.selects RX8 yX8_push yX8_push ∈ GT := GT_mem 882 (by decide +kernel) (by decide +kernel)
set_option maxRecDepth 20000 in
theorem wd_562 : Cond.code yX8_pop cX8_pop 1 (some .int) ∈ GT := GT_mem 887 rfl (by decide +kernel)
theorem wd_563 : Cond.instanceMethod yX8_pop ∈ GT := GT_mem 885 (by decide +kernel) (by decide +kernel)
theorem wd_564 : Cond.selects RX8 yX8_pop yX8_pop ∈ GT := GT_mem 886 (by decide +kernel) (by decide +kernel)
set_option maxRecDepth 20000 in
theorem wd_565 : Cond.code yX8_block cX8_block 5 (some .int) ∈ GT := GT_mem 891 rfl (by decide +kernel)
theorem wd_566 : Cond.instanceMethod yX8_block ∈ GT := GT_mem 889 (by decide +kernel) (by decide +kernel)
theorem wd_567 : Cond.selects RX8 yX8_block yX8_block ∈ GT := GT_mem 890 (by decide +kernel) (by decide +kernel)
set_option maxRecDepth 20000 in
theorem wd_568 : Cond.code yX8_free cX8_free 5 (some .int) ∈ GT := GT_mem 896 rfl (by decide +kernel)
theorem wd_569 : Cond.instanceMethod yX8_free ∈ GT := GT_mem 894 (by decide +kernel) (by decide +kernel)
theorem wd_570 : Cond.selects RX8 yX8_free yX8_free ∈ GT := GT_mem 895 (by decide +kernel) (by decide +kernel)
set_option maxRecDepth 20000 in
theorem wd_571 : Cond.code yX8_protect cX8_protect 3 (some .int) ∈ GT := GT_mem 900 rfl (by decide +kernel)
theorem wd_572 : Cond.instanceMethod yX8_protect ∈ GT := GT_mem 898 (by decide +kernel) (by decide +kernel)
theorem wd_573 : Cond.selects RX8 yX8_protect yX8_protect ∈ GT := GT_mem 899 (by decide +kernel) (by decide +kernel)
set_option maxRecDepth 20000 in
theorem wd_574 : Cond.code yX8_save cX8_save 4 (some .int) ∈ GT := GT_mem 905 rfl (by decide +kernel)
theorem wd_575 : Cond.instanceMethod yX8_save ∈ GT := GT_mem 903 (by decide +kernel) (by decide +kernel)
theorem wd_576 : Cond.selects RX8 yX8_save yX8_save ∈ GT := GT_mem 904 (by decide +kernel) (by decide +kernel)
set_option maxRecDepth 20000 in
theorem wd_577 : Cond.code yX8_load cX8_load 3 (some .int) ∈ GT := GT_mem 939 rfl (by decide +kernel)
theorem wd_578 : Cond.instanceMethod yX8_load ∈ GT := GT_mem 937 (by decide +kernel) (by decide +kernel)
theorem wd_579 : Cond.selects RX8 yX8_load yX8_load ∈ GT := GT_mem 938 (by decide +kernel) (by decide +kernel)
set_option maxRecDepth 20000 in
theorem wd_580 : Cond.code yX8_fault cX8_fault 2 (some .int) ∈ GT := GT_mem 991 rfl (by decide +kernel)
theorem wd_581 : Cond.instanceMethod yX8_fault ∈ GT := GT_mem 989 (by decide +kernel) (by decide +kernel)
theorem wd_582 : Cond.selects RX8 yX8_fault yX8_fault ∈ GT := GT_mem 990 (by decide +kernel) (by decide +kernel)
set_option maxRecDepth 20000 in
theorem wd_583 : Cond.code yX8_mark cX8_mark 3 (some .int) ∈ GT := GT_mem 995 rfl (by decide +kernel)
theorem wd_584 : Cond.instanceMethod yX8_mark ∈ GT := GT_mem 993 (by decide +kernel) (by decide +kernel)
theorem wd_585 : Cond.selects RX8 yX8_mark yX8_mark ∈ GT := GT_mem 994 (by decide +kernel) (by decide +kernel)
set_option maxRecDepth 20000 in
theorem wd_586 : Cond.code yX8_undo cX8_undo 3 (some .int) ∈ GT := GT_mem 1003 rfl (by decide +kernel)
theorem wd_587 : Cond.instanceMethod yX8_undo ∈ GT := GT_mem 1001 (by decide +kernel) (by decide +kernel)
theorem wd_588 : Cond.selects RX8 yX8_undo yX8_undo ∈ GT := GT_mem 1002 (by decide +kernel) (by decide +kernel)
set_option maxRecDepth 20000 in
theorem wd_589 : Cond.code yX8_restart cX8_restart 2 (some .int) ∈ GT := GT_mem 1007 rfl (by decide +kernel)
theorem wd_590 : Cond.instanceMethod yX8_restart ∈ GT := GT_mem 1005 (by decide +kernel) (by decide +kernel)
theorem wd_591 : Cond.selects RX8 yX8_restart yX8_restart ∈ GT := GT_mem 1006 (by decide +kernel) (by decide +kernel)
set_option maxRecDepth 20000 in
theorem wd_592 : Cond.code yX8_at cX8_at 2 (some .int) ∈ GT := GT_mem 1011 rfl (by decide +kernel)
theorem wd_593 : Cond.instanceMethod yX8_at ∈ GT := GT_mem 1009 (by decide +kernel) (by decide +kernel)
theorem wd_594 : Cond.selects RX8 yX8_at yX8_at ∈ GT := GT_mem 1010 (by decide +kernel) (by decide +kernel)
set_option maxRecDepth 20000 in
theorem wd_595 : Cond.code yX8_alter cX8_alter 3 (some .int) ∈ GT := GT_mem 1015 rfl (by decide +kernel)
theorem wd_596 : Cond.instanceMethod yX8_alter ∈ GT := GT_mem 1013 (by decide +kernel) (by decide +kernel)
theorem wd_597 : Cond.selects RX8 yX8_alter yX8_alter ∈ GT := GT_mem 1014 (by decide +kernel) (by decide +kernel)
set_option maxRecDepth 20000 in
theorem wd_598 : Cond.code yX8_cut cX8_cut 3 (some .int) ∈ GT := GT_mem 1019 rfl (by decide +kernel)
theorem wd_599 : Cond.instanceMethod yX8_cut ∈ GT := GT_mem 1017 (by decide +kernel) (by decide +kernel)
theorem wd_600 : Cond.selects RX8 yX8_cut yX8_cut ∈ GT := GT_mem 1018 (by decide +kernel) (by decide +kernel)
set_option maxRecDepth 20000 in
theorem wd_601 : Cond.code yX8_more cX8_more 5 (some .int) ∈ GT := GT_mem 1023 rfl (by decide +kernel)
theorem wd_602 : Cond.instanceMethod yX8_more ∈ GT := GT_mem 1021 (by decide +kernel) (by decide +kernel)
theorem wd_603 : Cond.selects RX8 yX8_more yX8_more ∈ GT := GT_mem 1022 (by decide +kernel) (by decide +kernel)
set_option maxRecDepth 20000 in
theorem wd_604 : Cond.code yX8_seal cX8_seal 3 (some .int) ∈ GT := GT_mem 1028 rfl (by decide +kernel)
theorem wd_605 : Cond.instanceMethod yX8_seal ∈ GT := GT_mem 1026 (by decide +kernel) (by decide +kernel)
theorem wd_606 : Cond.selects RX8 yX8_seal yX8_seal ∈ GT := GT_mem 1027 (by decide +kernel) (by decide +kernel)
set_option maxRecDepth 20000 in
theorem wd_607 : Cond.code yX8_count cX8_count 4 (some .int) ∈ GT := GT_mem 1032 rfl (by decide +kernel)
theorem wd_608 : Cond.instanceMethod yX8_count ∈ GT := GT_mem 1030 (by decide +kernel) (by decide +kernel)
theorem wd_609 : Cond.selects RX8 yX8_count yX8_count ∈ GT := GT_mem 1031 (by decide +kernel) (by decide +kernel)
set_option maxRecDepth 20000 in
theorem wd_610 : Cond.code yX8_hash cX8_hash 3 (some .int) ∈ GT := GT_mem 1036 rfl (by decide +kernel)
theorem wd_611 : Cond.instanceMethod yX8_hash ∈ GT := GT_mem 1034 (by decide +kernel) (by decide +kernel)
theorem wd_612 : Cond.selects RX8 yX8_hash yX8_hash ∈ GT := GT_mem 1035 (by decide +kernel) (by decide +kernel)
set_option maxRecDepth 20000 in
theorem wd_613 : Cond.code yX7_init cX7_init 4 none ∈ GT := GT_mem 60 rfl (by decide +kernel)
theorem wd_614 : Cond.instanceMethod yX7_init ∈ GT := GT_mem 59 (by decide +kernel) (by decide +kernel)
set_option maxRecDepth 20000 in
theorem wd_615 : Cond.code yX7_mark cX7_mark 1 (some .int) ∈ GT := GT_mem 555 rfl (by decide +kernel)
theorem wd_616 : Cond.instanceMethod yX7_mark ∈ GT := GT_mem 553 (by decide +kernel) (by decide +kernel)
theorem wd_617 : Cond.selects RX7 yX7_mark yX7_mark ∈ GT := GT_mem 554 (by decide +kernel) (by decide +kernel)
set_option maxRecDepth 20000 in
theorem wd_618 : Cond.code yX7_undo cX7_undo 2 (some .int) ∈ GT := GT_mem 568 rfl (by decide +kernel)
theorem wd_619 : Cond.instanceMethod yX7_undo ∈ GT := GT_mem 566 (by decide +kernel) (by decide +kernel)
theorem wd_620 : Cond.selects RX7 yX7_undo yX7_undo ∈ GT := GT_mem 567 (by decide +kernel) (by decide +kernel)
set_option maxRecDepth 20000 in
theorem wd_621 : Cond.code yX7_peek cX7_peek 2 (some .int) ∈ GT := GT_mem 288 rfl (by decide +kernel)
theorem wd_622 : Cond.instanceMethod yX7_peek ∈ GT := GT_mem 286 (by decide +kernel) (by decide +kernel)
theorem wd_623 : Cond.selects RX7 yX7_peek yX7_peek ∈ GT := GT_mem 287 (by decide +kernel) (by decide +kernel)
set_option maxRecDepth 20000 in
theorem wd_624 : Cond.code yX7_poke cX7_poke 4 (some .int) ∈ GT := GT_mem 292 rfl (by decide +kernel)
theorem wd_625 : Cond.instanceMethod yX7_poke ∈ GT := GT_mem 290 (by decide +kernel) (by decide +kernel)
theorem wd_626 : Cond.selects RX7 yX7_poke yX7_poke ∈ GT := GT_mem 291 (by decide +kernel) (by decide +kernel)
set_option maxRecDepth 20000 in
theorem wd_627 : Cond.code yX7_resize cX7_resize 3 (some .int) ∈ GT := GT_mem 299 rfl (by decide +kernel)
theorem wd_628 : Cond.instanceMethod yX7_resize ∈ GT := GT_mem 297 (by decide +kernel) (by decide +kernel)
theorem wd_629 : Cond.selects RX7 yX7_resize yX7_resize ∈ GT := GT_mem 298 (by decide +kernel) (by decide +kernel)
set_option maxRecDepth 20000 in
theorem wd_630 : Cond.code yX7_push cX7_push 2 (some .int) ∈ GT := GT_mem 315 rfl (by decide +kernel)
theorem wd_631 : Cond.instanceMethod yX7_push ∈ GT := GT_mem 313 (by decide +kernel) (by decide +kernel)
theorem wd_632 : Cond.selects RX7 yX7_push yX7_push ∈ GT := GT_mem 314 (by decide +kernel) (by decide +kernel)
set_option maxRecDepth 20000 in
theorem wd_633 : Cond.code yX7_block cX7_block 3 (some .int) ∈ GT := GT_mem 323 rfl (by decide +kernel)
theorem wd_634 : Cond.instanceMethod yX7_block ∈ GT := GT_mem 321 (by decide +kernel) (by decide +kernel)
theorem wd_635 : Cond.selects RX7 yX7_block yX7_block ∈ GT := GT_mem 322 (by decide +kernel) (by decide +kernel)
set_option maxRecDepth 20000 in
theorem wd_636 : Cond.code yX7_free cX7_free 3 (some .int) ∈ GT := GT_mem 339 rfl (by decide +kernel)
theorem wd_637 : Cond.instanceMethod yX7_free ∈ GT := GT_mem 337 (by decide +kernel) (by decide +kernel)
theorem wd_638 : Cond.selects RX7 yX7_free yX7_free ∈ GT := GT_mem 338 (by decide +kernel) (by decide +kernel)
set_option maxRecDepth 20000 in
theorem wd_639 : Cond.code yX7_protect cX7_protect 3 (some .int) ∈ GT := GT_mem 351 rfl (by decide +kernel)
theorem wd_640 : Cond.instanceMethod yX7_protect ∈ GT := GT_mem 349 (by decide +kernel) (by decide +kernel)
theorem wd_641 : Cond.selects RX7 yX7_protect yX7_protect ∈ GT := GT_mem 350 (by decide +kernel) (by decide +kernel)
set_option maxRecDepth 20000 in
theorem wd_642 : Cond.code yX7_save cX7_save 1 (some .int) ∈ GT := GT_mem 355 rfl (by decide +kernel)
theorem wd_643 : Cond.instanceMethod yX7_save ∈ GT := GT_mem 353 (by decide +kernel) (by decide +kernel)
theorem wd_644 : Cond.selects RX7 yX7_save yX7_save ∈ GT := GT_mem 354 (by decide +kernel) (by decide +kernel)
set_option maxRecDepth 20000 in
theorem wd_645 : Cond.code yX7_load cX7_load 1 (some .int) ∈ GT := GT_mem 421 rfl (by decide +kernel)
theorem wd_646 : Cond.instanceMethod yX7_load ∈ GT := GT_mem 419 (by decide +kernel) (by decide +kernel)
theorem wd_647 : Cond.selects RX7 yX7_load yX7_load ∈ GT := GT_mem 420 (by decide +kernel) (by decide +kernel)
set_option maxRecDepth 20000 in
theorem wd_648 : Cond.code yX7_fault cX7_fault 2 (some .int) ∈ GT := GT_mem 551 rfl (by decide +kernel)
theorem wd_649 : Cond.instanceMethod yX7_fault ∈ GT := GT_mem 549 (by decide +kernel) (by decide +kernel)
theorem wd_650 : Cond.selects RX7 yX7_fault yX7_fault ∈ GT := GT_mem 550 (by decide +kernel) (by decide +kernel)
set_option maxRecDepth 20000 in
theorem wd_651 : Cond.code yX7_restart cX7_restart 1 (some .int) ∈ GT := GT_mem 576 rfl (by decide +kernel)
theorem wd_652 : Cond.instanceMethod yX7_restart ∈ GT := GT_mem 574 (by decide +kernel) (by decide +kernel)
theorem wd_653 : Cond.selects RX7 yX7_restart yX7_restart ∈ GT := GT_mem 575 (by decide +kernel) (by decide +kernel)
set_option maxRecDepth 20000 in
theorem wd_654 : Cond.code yX7_at cX7_at 2 (some .int) ∈ GT := GT_mem 580 rfl (by decide +kernel)
theorem wd_655 : Cond.instanceMethod yX7_at ∈ GT := GT_mem 578 (by decide +kernel) (by decide +kernel)
theorem wd_656 : Cond.selects RX7 yX7_at yX7_at ∈ GT := GT_mem 579 (by decide +kernel) (by decide +kernel)
set_option maxRecDepth 20000 in
theorem wd_657 : Cond.code yX7_alter cX7_alter 4 (some .int) ∈ GT := GT_mem 586 rfl (by decide +kernel)
theorem wd_658 : Cond.instanceMethod yX7_alter ∈ GT := GT_mem 584 (by decide +kernel) (by decide +kernel)
theorem wd_659 : Cond.selects RX7 yX7_alter yX7_alter ∈ GT := GT_mem 585 (by decide +kernel) (by decide +kernel)
set_option maxRecDepth 20000 in
theorem wd_660 : Cond.code yX7_cut cX7_cut 3 (some .int) ∈ GT := GT_mem 591 rfl (by decide +kernel)
theorem wd_661 : Cond.instanceMethod yX7_cut ∈ GT := GT_mem 589 (by decide +kernel) (by decide +kernel)
theorem wd_662 : Cond.selects RX7 yX7_cut yX7_cut ∈ GT := GT_mem 590 (by decide +kernel) (by decide +kernel)
set_option maxRecDepth 20000 in
theorem wd_663 : Cond.code yX7_more cX7_more 5 (some .int) ∈ GT := GT_mem 595 rfl (by decide +kernel)
theorem wd_664 : Cond.instanceMethod yX7_more ∈ GT := GT_mem 593 (by decide +kernel) (by decide +kernel)
theorem wd_665 : Cond.selects RX7 yX7_more yX7_more ∈ GT := GT_mem 594 (by decide +kernel) (by decide +kernel)
set_option maxRecDepth 20000 in
theorem wd_666 : Cond.code yX7_seal cX7_seal 2 (some .int) ∈ GT := GT_mem 600 rfl (by decide +kernel)
theorem wd_667 : Cond.instanceMethod yX7_seal ∈ GT := GT_mem 598 (by decide +kernel) (by decide +kernel)
theorem wd_668 : Cond.selects RX7 yX7_seal yX7_seal ∈ GT := GT_mem 599 (by decide +kernel) (by decide +kernel)
set_option maxRecDepth 20000 in
theorem wd_669 : Cond.code yX7_count cX7_count 2 (some .int) ∈ GT := GT_mem 605 rfl (by decide +kernel)
theorem wd_670 : Cond.instanceMethod yX7_count ∈ GT := GT_mem 603 (by decide +kernel) (by decide +kernel)
theorem wd_671 : Cond.selects RX7 yX7_count yX7_count ∈ GT := GT_mem 604 (by decide +kernel) (by decide +kernel)
set_option maxRecDepth 20000 in
theorem wd_672 : Cond.code yX7_hash cX7_hash 1 (some .int) ∈ GT := GT_mem 613 rfl (by decide +kernel)
theorem wd_673 : Cond.instanceMethod yX7_hash ∈ GT := GT_mem 611 (by decide +kernel) (by decide +kernel)
theorem wd_674 : Cond.selects RX7 yX7_hash yX7_hash ∈ GT := GT_mem 612 (by decide +kernel) (by decide +kernel)
theorem inG_X0 : ∀ w ∈ wsX00, w ∈ GT := GT_all [144, 146, 148] (by decide +kernel) (by decide +kernel)
theorem inG_X4 : ∀ w ∈ wsX40, w ∈ GT := GT_all [189, 191, 193] (by decide +kernel) (by decide +kernel)
theorem inG_X1 : ∀ w ∈ wsX10, w ∈ GT := GT_all [90, 92, 94, 96, 98, 100, 102] (by decide +kernel) (by decide +kernel)
theorem inG_X5 : ∀ w ∈ wsX50, w ∈ GT := GT_all [163, 165] (by decide +kernel) (by decide +kernel)
theorem inG_X2 : ∀ w ∈ wsX20, w ∈ GT := GT_all [122, 124, 126, 128] (by decide +kernel) (by decide +kernel)
theorem inG_X3 : ∀ w ∈ wsX30, w ∈ GT := GT_all [220, 222, 224, 226, 228, 230, 232, 234, 236, 238] (by decide +kernel) (by decide +kernel)
theorem inG_X8 : ∀ w ∈ wsX80, w ∈ GT := GT_all [763, 765, 767, 769, 771, 773, 775, 777, 779, 781, 783, 785, 787, 789, 791, 793, 795, 797, 799, 801, 803, 805, 807, 809, 811, 813, 815, 817, 819, 821, 823, 825, 827, 829, 831, 833, 835, 837, 839, 841, 843, 845, 847, 849, 851, 853, 855] (by decide +kernel) (by decide +kernel)
theorem inG_X7 : ∀ w ∈ wsX70, w ∈ GT := GT_all [260, 262, 264, 266, 268, 270, 272, 274, 276, 278, 280, 282] (by decide +kernel) (by decide +kernel)
theorem ok_X0_setByte : OkY yX0_setByte cX0_setByte 3 none 2 := ⟨wd_302, wd_239, by decide +kernel⟩
theorem okv_X0_setByte : OkV yX0_setByte := ⟨wd_303, wd_304⟩
theorem ok_X0_add : OkY yX0_add cX0_add 2 none 1 := ⟨wd_305, wd_239, by decide +kernel⟩
theorem okv_X0_add : OkV yX0_add := ⟨wd_306, wd_307⟩
theorem ok_X4_inSteps : OkY yX4_inSteps cX4_inSteps 4 (some .boolean) 4 := ⟨wd_308, wd_253, by decide +kernel⟩
theorem oks_X4_inSteps : Cond.static yX4_inSteps ∈ GT := wd_309
theorem ok_X7_isBlockLength : OkY yX7_isBlockLength cX7_isBlockLength 1 (some .boolean) 1 := ⟨wd_310, wd_311, by decide +kernel⟩
theorem oks_X7_isBlockLength : Cond.static yX7_isBlockLength ∈ GT := wd_312
theorem ok_X1_init : OkY yX1_init cX1_init 1 none 0 := ⟨wd_313, wd_39, by decide +kernel⟩
theorem oki_X1_init : Cond.instanceMethod yX1_init ∈ GT ∧ yX1_init.name = "<init>" := ⟨wd_314, rfl⟩
theorem ok_X1_become : OkY yX1_become cX1_become 7 none 3 := ⟨wd_315, wd_39, by decide +kernel⟩
theorem okv_X1_become : OkV yX1_become := ⟨wd_316, wd_317⟩
theorem ok_X5_dropEldest : OkY yX5_dropEldest cX5_dropEldest 3 none 0 := ⟨wd_318, wd_244, by decide +kernel⟩
theorem okv_X5_dropEldest : OkV yX5_dropEldest := ⟨wd_319, wd_320⟩
theorem ok_X0_fourAt : OkY yX0_fourAt cX0_fourAt 2 (some .int) 1 := ⟨wd_321, wd_239, by decide +kernel⟩
theorem okv_X0_fourAt : OkV yX0_fourAt := ⟨wd_322, wd_323⟩
theorem ok_X0_byteAt : OkY yX0_byteAt cX0_byteAt 2 (some .int) 1 := ⟨wd_324, wd_239, by decide +kernel⟩
theorem okv_X0_byteAt : OkV yX0_byteAt := ⟨wd_325, wd_326⟩
theorem ok_X0_addFour : OkY yX0_addFour cX0_addFour 3 none 1 := ⟨wd_327, wd_239, by decide +kernel⟩
theorem okv_X0_addFour : OkV yX0_addFour := ⟨wd_328, wd_329⟩
theorem ok_X0_setFour : OkY yX0_setFour cX0_setFour 4 none 2 := ⟨wd_330, wd_239, by decide +kernel⟩
theorem okv_X0_setFour : OkV yX0_setFour := ⟨wd_331, wd_332⟩
theorem ok_X6_openChunk : OkY yX6_openChunk cX6_openChunk 3 (some .int) 2 := ⟨wd_333, wd_334, by decide +kernel⟩
theorem oks_X6_openChunk : Cond.static yX6_openChunk ∈ GT := wd_335
theorem ok_X6_closeChunk : OkY yX6_closeChunk cX6_closeChunk 3 none 2 := ⟨wd_336, wd_334, by decide +kernel⟩
theorem oks_X6_closeChunk : Cond.static yX6_closeChunk ∈ GT := wd_337
theorem ok_X6_writeZeros : OkY yX6_writeZeros cX6_writeZeros 3 none 2 := ⟨wd_338, wd_334, by decide +kernel⟩
theorem oks_X6_writeZeros : Cond.static yX6_writeZeros ∈ GT := wd_339
theorem ok_X6_writeHead : OkY yX6_writeHead cX6_writeHead 4 none 2 := ⟨wd_340, wd_334, by decide +kernel⟩
theorem oks_X6_writeHead : Cond.static yX6_writeHead ∈ GT := wd_341
theorem ok_X6_writeMemory : OkY yX6_writeMemory cX6_writeMemory 7 none 3 := ⟨wd_342, wd_334, by decide +kernel⟩
theorem oks_X6_writeMemory : Cond.static yX6_writeMemory ∈ GT := wd_343
theorem ok_X6_writeStack : OkY yX6_writeStack cX6_writeStack 4 none 2 := ⟨wd_344, wd_334, by decide +kernel⟩
theorem oks_X6_writeStack : Cond.static yX6_writeStack ∈ GT := wd_345
theorem ok_X6_writeOthers : OkY yX6_writeOthers cX6_writeOthers 5 none 2 := ⟨wd_346, wd_334, by decide +kernel⟩
theorem oks_X6_writeOthers : Cond.static yX6_writeOthers ∈ GT := wd_347
theorem ok_X6_writeBlocks : OkY yX6_writeBlocks cX6_writeBlocks 4 none 2 := ⟨wd_348, wd_334, by decide +kernel⟩
theorem oks_X6_writeBlocks : Cond.static yX6_writeBlocks ∈ GT := wd_349
theorem ok_X2_init : OkY yX2_init cX2_init 1 none 0 := ⟨wd_350, wd_87, by decide +kernel⟩
theorem oki_X2_init : Cond.instanceMethod yX2_init ∈ GT ∧ yX2_init.name = "<init>" := ⟨wd_351, rfl⟩
theorem ok_X1_begin : OkY yX1_begin cX1_begin 2 none 1 := ⟨wd_352, wd_39, by decide +kernel⟩
theorem okv_X1_begin : OkV yX1_begin := ⟨wd_353, wd_354⟩
theorem ok_X0_holds : OkY yX0_holds cX0_holds 4 (some .boolean) 2 := ⟨wd_355, wd_239, by decide +kernel⟩
theorem okv_X0_holds : OkV yX0_holds := ⟨wd_356, wd_357⟩
theorem ok_X3_fail : OkY yX3_fail cX3_fail 3 (some .boolean) 2 := ⟨wd_358, wd_258, by decide +kernel⟩
theorem okv_X3_fail : OkV yX3_fail := ⟨wd_359, wd_360⟩
theorem ok_X3_reaches : OkY yX3_reaches cX3_reaches 5 (some .boolean) 3 := ⟨wd_361, wd_258, by decide +kernel⟩
theorem okv_X3_reaches : OkV yX3_reaches := ⟨wd_362, wd_363⟩
theorem ok_X3_readLetters : OkY yX3_readLetters cX3_readLetters 5 (some .boolean) 3 := ⟨wd_364, wd_258, by decide +kernel⟩
theorem okv_X3_readLetters : OkV yX3_readLetters := ⟨wd_365, wd_366⟩
theorem ok_X3_readWholeLength : OkY yX3_readWholeLength cX3_readWholeLength 2 (some .boolean) 1 := ⟨wd_367, wd_258, by decide +kernel⟩
theorem okv_X3_readWholeLength : OkV yX3_readWholeLength := ⟨wd_368, wd_369⟩
theorem ok_X3_wasSeen : OkY yX3_wasSeen cX3_wasSeen 2 (some .boolean) 1 := ⟨wd_370, wd_258, by decide +kernel⟩
theorem okv_X3_wasSeen : OkV yX3_wasSeen := ⟨wd_371, wd_372⟩
theorem ok_X3_lengthIsRight : OkY yX3_lengthIsRight cX3_lengthIsRight 2 (some .boolean) 2 := ⟨wd_373, wd_258, by decide +kernel⟩
theorem oks_X3_lengthIsRight : Cond.static yX3_lengthIsRight ∈ GT := wd_374
theorem ok_X3_isKnown : OkY yX3_isKnown cX3_isKnown 1 (some .boolean) 1 := ⟨wd_375, wd_258, by decide +kernel⟩
theorem oks_X3_isKnown : Cond.static yX3_isKnown ∈ GT := wd_376
theorem ok_X4_allowsSize : OkY yX4_allowsSize cX4_allowsSize 2 (some .boolean) 1 := ⟨wd_377, wd_253, by decide +kernel⟩
theorem okv_X4_allowsSize : OkV yX4_allowsSize := ⟨wd_378, wd_379⟩
theorem ok_X1_addInt : OkY yX1_addInt cX1_addInt 2 (some .boolean) 1 := ⟨wd_380, wd_39, by decide +kernel⟩
theorem okv_X1_addInt : OkV yX1_addInt := ⟨wd_381, wd_382⟩
theorem ok_X1_blocksEnd : OkY yX1_blocksEnd cX1_blocksEnd 1 (some .int) 0 := ⟨wd_383, wd_39, by decide +kernel⟩
theorem okv_X1_blocksEnd : OkV yX1_blocksEnd := ⟨wd_384, wd_385⟩
theorem ok_X1_fits : OkY yX1_fits cX1_fits 5 (some .boolean) 3 := ⟨wd_386, wd_39, by decide +kernel⟩
theorem okv_X1_fits : OkV yX1_fits := ⟨wd_387, wd_388⟩
theorem ok_X1_addBlock : OkY yX1_addBlock cX1_addBlock 4 (some .boolean) 2 := ⟨wd_389, wd_39, by decide +kernel⟩
theorem okv_X1_addBlock : OkV yX1_addBlock := ⟨wd_390, wd_391⟩
theorem ok_X3_readSize : OkY yX3_readSize cX3_readSize 4 (some .boolean) 2 := ⟨wd_392, wd_258, by decide +kernel⟩
theorem okv_X3_readSize : OkV yX3_readSize := ⟨wd_393, wd_394⟩
theorem ok_X3_readMemory : OkY yX3_readMemory cX3_readMemory 9 (some .boolean) 3 := ⟨wd_395, wd_258, by decide +kernel⟩
theorem okv_X3_readMemory : OkV yX3_readMemory := ⟨wd_396, wd_397⟩
theorem ok_X3_readHead : OkY yX3_readHead cX3_readHead 4 (some .boolean) 2 := ⟨wd_398, wd_258, by decide +kernel⟩
theorem okv_X3_readHead : OkV yX3_readHead := ⟨wd_399, wd_400⟩
theorem ok_X3_readBlocks : OkY yX3_readBlocks cX3_readBlocks 9 (some .boolean) 3 := ⟨wd_401, wd_258, by decide +kernel⟩
theorem okv_X3_readBlocks : OkV yX3_readBlocks := ⟨wd_402, wd_403⟩
theorem ok_X3_readStack : OkY yX3_readStack cX3_readStack 5 (some .boolean) 3 := ⟨wd_404, wd_258, by decide +kernel⟩
theorem okv_X3_readStack : OkV yX3_readStack := ⟨wd_405, wd_406⟩
theorem ok_X2_addFrom : OkY yX2_addFrom cX2_addFrom 5 none 3 := ⟨wd_407, wd_87, by decide +kernel⟩
theorem okv_X2_addFrom : OkV yX2_addFrom := ⟨wd_408, wd_409⟩
theorem ok_X3_mayCome : OkY yX3_mayCome cX3_mayCome 4 (some .boolean) 2 := ⟨wd_410, wd_258, by decide +kernel⟩
theorem okv_X3_mayCome : OkV yX3_mayCome := ⟨wd_411, wd_412⟩
theorem ok_X3_lengthMayBe : OkY yX3_lengthMayBe cX3_lengthMayBe 4 (some .boolean) 3 := ⟨wd_413, wd_258, by decide +kernel⟩
theorem okv_X3_lengthMayBe : OkV yX3_lengthMayBe := ⟨wd_414, wd_415⟩
theorem ok_X3_isWhole : OkY yX3_isWhole cX3_isWhole 6 (some .boolean) 3 := ⟨wd_416, wd_258, by decide +kernel⟩
theorem okv_X3_isWhole : OkV yX3_isWhole := ⟨wd_417, wd_418⟩
theorem ok_X3_readInside : OkY yX3_readInside cX3_readInside 6 (some .boolean) 4 := ⟨wd_419, wd_258, by decide +kernel⟩
theorem okv_X3_readInside : OkV yX3_readInside := ⟨wd_420, wd_421⟩
theorem ok_X3_forget : OkY yX3_forget cX3_forget 1 none 0 := ⟨wd_422, wd_258, by decide +kernel⟩
theorem okv_X3_forget : OkV yX3_forget := ⟨wd_423, wd_424⟩
theorem ok_X3_readFront : OkY yX3_readFront cX3_readFront 2 (some .boolean) 1 := ⟨wd_425, wd_258, by decide +kernel⟩
theorem okv_X3_readFront : OkV yX3_readFront := ⟨wd_426, wd_427⟩
theorem ok_X3_readChunk : OkY yX3_readChunk cX3_readChunk 5 (some .boolean) 2 := ⟨wd_428, wd_258, by decide +kernel⟩
theorem okv_X3_readChunk : OkV yX3_readChunk := ⟨wd_429, wd_430⟩
theorem ok_X8_in : OkY yX8_in cX8_in 6 (some .boolean) 3 := ⟨wd_431, wd_432, by decide +kernel⟩
theorem oks_X8_in : Cond.static yX8_in ∈ GT := wd_433
theorem ok_X8_original : OkY yX8_original cX8_original 2 (some .int) 1 := ⟨wd_434, wd_432, by decide +kernel⟩
theorem okv_X8_original : OkV yX8_original := ⟨wd_435, wd_436⟩
theorem ok_X8_isSize : OkY yX8_isSize cX8_isSize 2 (some .boolean) 1 := ⟨wd_437, wd_432, by decide +kernel⟩
theorem okv_X8_isSize : OkV yX8_isSize := ⟨wd_438, wd_439⟩
theorem ok_X8_put : OkY yX8_put cX8_put 2 none 1 := ⟨wd_440, wd_432, by decide +kernel⟩
theorem okv_X8_put : OkV yX8_put := ⟨wd_441, wd_442⟩
theorem ok_X8_putFour : OkY yX8_putFour cX8_putFour 2 none 1 := ⟨wd_443, wd_432, by decide +kernel⟩
theorem okv_X8_putFour : OkV yX8_putFour := ⟨wd_444, wd_445⟩
theorem ok_X8_putAt : OkY yX8_putAt cX8_putAt 4 none 2 := ⟨wd_446, wd_432, by decide +kernel⟩
theorem okv_X8_putAt : OkV yX8_putAt := ⟨wd_447, wd_448⟩
theorem ok_X8_chunk : OkY yX8_chunk cX8_chunk 2 (some .int) 1 := ⟨wd_449, wd_432, by decide +kernel⟩
theorem okv_X8_chunk : OkV yX8_chunk := ⟨wd_450, wd_451⟩
theorem ok_X8_close : OkY yX8_close cX8_close 3 none 1 := ⟨wd_452, wd_432, by decide +kernel⟩
theorem okv_X8_close : OkV yX8_close := ⟨wd_453, wd_454⟩
theorem ok_X8_putMemory : OkY yX8_putMemory cX8_putMemory 6 none 0 := ⟨wd_455, wd_432, by decide +kernel⟩
theorem okv_X8_putMemory : OkV yX8_putMemory := ⟨wd_456, wd_457⟩
theorem ok_X8_fail : OkY yX8_fail cX8_fail 3 none 2 := ⟨wd_458, wd_432, by decide +kernel⟩
theorem okv_X8_fail : OkV yX8_fail := ⟨wd_459, wd_460⟩
theorem ok_X8_has : OkY yX8_has cX8_has 3 (some .boolean) 1 := ⟨wd_461, wd_432, by decide +kernel⟩
theorem okv_X8_has : OkV yX8_has := ⟨wd_462, wd_463⟩
theorem ok_X8_fourAt : OkY yX8_fourAt cX8_fourAt 2 (some .int) 1 := ⟨wd_464, wd_432, by decide +kernel⟩
theorem okv_X8_fourAt : OkV yX8_fourAt := ⟨wd_465, wd_466⟩
theorem ok_X8_readBlocks : OkY yX8_readBlocks cX8_readBlocks 5 none 1 := ⟨wd_467, wd_432, by decide +kernel⟩
theorem okv_X8_readBlocks : OkV yX8_readBlocks := ⟨wd_468, wd_469⟩
theorem ok_X8_readStack : OkY yX8_readStack cX8_readStack 3 none 1 := ⟨wd_470, wd_432, by decide +kernel⟩
theorem okv_X8_readStack : OkV yX8_readStack := ⟨wd_471, wd_472⟩
theorem ok_X8_readMemory : OkY yX8_readMemory cX8_readMemory 5 none 1 := ⟨wd_473, wd_432, by decide +kernel⟩
theorem okv_X8_readMemory : OkV yX8_readMemory := ⟨wd_474, wd_475⟩
theorem ok_X8_readHead : OkY yX8_readHead cX8_readHead 3 none 1 := ⟨wd_476, wd_432, by decide +kernel⟩
theorem okv_X8_readHead : OkV yX8_readHead := ⟨wd_477, wd_478⟩
theorem ok_X8_letters : OkY yX8_letters cX8_letters 3 none 1 := ⟨wd_479, wd_432, by decide +kernel⟩
theorem okv_X8_letters : OkV yX8_letters := ⟨wd_480, wd_481⟩
theorem ok_X8_readChunk : OkY yX8_readChunk cX8_readChunk 7 none 0 := ⟨wd_482, wd_432, by decide +kernel⟩
theorem okv_X8_readChunk : OkV yX8_readChunk := ⟨wd_483, wd_484⟩
theorem ok_X8_readAll : OkY yX8_readAll cX8_readAll 1 none 0 := ⟨wd_485, wd_432, by decide +kernel⟩
theorem okv_X8_readAll : OkV yX8_readAll := ⟨wd_486, wd_487⟩
theorem ok_X8_isGuarded : OkY yX8_isGuarded cX8_isGuarded 2 (some .boolean) 1 := ⟨wd_488, wd_432, by decide +kernel⟩
theorem okv_X8_isGuarded : OkV yX8_isGuarded := ⟨wd_489, wd_490⟩
theorem ok_X8_move : OkY yX8_move cX8_move 4 none 2 := ⟨wd_491, wd_432, by decide +kernel⟩
theorem okv_X8_move : OkV yX8_move := ⟨wd_492, wd_493⟩
theorem ok_X0_init : OkY yX0_init cX0_init 1 none 0 := ⟨wd_494, wd_239, by decide +kernel⟩
theorem oki_X0_init : Cond.instanceMethod yX0_init ∈ GT ∧ yX0_init.name = "<init>" := ⟨wd_495, rfl⟩
theorem ok_X5_init : OkY yX5_init cX5_init 2 none 0 := ⟨wd_496, wd_244, by decide +kernel⟩
theorem oki_X5_init : Cond.instanceMethod yX5_init ∈ GT ∧ yX5_init.name = "<init>" := ⟨wd_497, rfl⟩
theorem ok_X4_init : OkY yX4_init cX4_init 5 none 3 := ⟨wd_498, wd_253, by decide +kernel⟩
theorem oki_X4_init : Cond.instanceMethod yX4_init ∈ GT ∧ yX4_init.name = "<init>" := ⟨wd_499, rfl⟩
theorem ok_X3_init : OkY yX3_init cX3_init 2 none 1 := ⟨wd_500, wd_258, by decide +kernel⟩
theorem oki_X3_init : Cond.instanceMethod yX3_init ∈ GT ∧ yX3_init.name = "<init>" := ⟨wd_501, rfl⟩
theorem ok_X5_keep : OkY yX5_keep cX5_keep 2 none 1 := ⟨wd_502, wd_244, by decide +kernel⟩
theorem okv_X5_keep : OkV yX5_keep := ⟨wd_503, wd_504⟩
theorem ok_X5_takeLatest : OkY yX5_takeLatest cX5_takeLatest 1 (some (.object "GlulxSaves$Machine")) 0 := ⟨wd_505, wd_244, by decide +kernel⟩
theorem okv_X5_takeLatest : OkV yX5_takeLatest := ⟨wd_506, wd_507⟩
theorem ok_X7_bringBack : OkY yX7_bringBack cX7_bringBack 2 none 1 := ⟨wd_508, wd_311, by decide +kernel⟩
theorem okv_X7_bringBack : OkV yX7_bringBack := ⟨wd_509, wd_510⟩
theorem ok_X7_isByte : OkY yX7_isByte cX7_isByte 1 (some .boolean) 1 := ⟨wd_511, wd_311, by decide +kernel⟩
theorem oks_X7_isByte : Cond.static yX7_isByte ∈ GT := wd_512
theorem ok_X1_changeSize : OkY yX1_changeSize cX1_changeSize 3 none 1 := ⟨wd_513, wd_39, by decide +kernel⟩
theorem okv_X1_changeSize : OkV yX1_changeSize := ⟨wd_514, wd_515⟩
theorem ok_X1_blockAt : OkY yX1_blockAt cX1_blockAt 3 (some .int) 1 := ⟨wd_516, wd_39, by decide +kernel⟩
theorem okv_X1_blockAt : OkV yX1_blockAt := ⟨wd_517, wd_518⟩
theorem ok_X1_removeBlock : OkY yX1_removeBlock cX1_removeBlock 4 (some .int) 1 := ⟨wd_519, wd_39, by decide +kernel⟩
theorem okv_X1_removeBlock : OkV yX1_removeBlock := ⟨wd_520, wd_521⟩
theorem ok_X0_clear : OkY yX0_clear cX0_clear 1 none 0 := ⟨wd_522, wd_239, by decide +kernel⟩
theorem okv_X0_clear : OkV yX0_clear := ⟨wd_523, wd_524⟩
theorem ok_X6_writeFile : OkY yX6_writeFile cX6_writeFile 4 none 4 := ⟨wd_525, wd_334, by decide +kernel⟩
theorem oks_X6_writeFile : Cond.static yX6_writeFile ∈ GT := wd_526
theorem ok_X0_become : OkY yX0_become cX0_become 2 none 1 := ⟨wd_527, wd_239, by decide +kernel⟩
theorem okv_X0_become : OkV yX0_become := ⟨wd_528, wd_529⟩
theorem ok_X3_read : OkY yX3_read cX3_read 3 (some .boolean) 1 := ⟨wd_530, wd_258, by decide +kernel⟩
theorem okv_X3_read : OkV yX3_read := ⟨wd_531, wd_532⟩
theorem ok_X2_become : OkY yX2_become cX2_become 2 none 1 := ⟨wd_533, wd_87, by decide +kernel⟩
theorem okv_X2_become : OkV yX2_become := ⟨wd_534, wd_535⟩
theorem ok_X2_bytesInAll : OkY yX2_bytesInAll cX2_bytesInAll 3 (some .int) 0 := ⟨wd_536, wd_87, by decide +kernel⟩
theorem okv_X2_bytesInAll : OkV yX2_bytesInAll := ⟨wd_537, wd_538⟩
theorem ok_X1_number : OkY yX1_number cX1_number 3 (some .int) 0 := ⟨wd_539, wd_39, by decide +kernel⟩
theorem okv_X1_number : OkV yX1_number := ⟨wd_540, wd_541⟩
theorem ok_X1_takeInt : OkY yX1_takeInt cX1_takeInt 1 (some .int) 0 := ⟨wd_542, wd_39, by decide +kernel⟩
theorem okv_X1_takeInt : OkV yX1_takeInt := ⟨wd_543, wd_544⟩
theorem ok_X8_init : OkY yX8_init cX8_init 5 none 3 := ⟨wd_545, wd_432, by decide +kernel⟩
theorem oki_X8_init : Cond.instanceMethod yX8_init ∈ GT ∧ yX8_init.name = "<init>" := ⟨wd_546, rfl⟩
theorem ok_X8_thrown : OkY yX8_thrown cX8_thrown 1 (some .int) 0 := ⟨wd_547, wd_432, by decide +kernel⟩
theorem okv_X8_thrown : OkV yX8_thrown := ⟨wd_548, wd_549⟩
theorem ok_X8_peek : OkY yX8_peek cX8_peek 2 (some .int) 1 := ⟨wd_550, wd_432, by decide +kernel⟩
theorem okv_X8_peek : OkV yX8_peek := ⟨wd_551, wd_552⟩
theorem ok_X8_poke : OkY yX8_poke cX8_poke 4 (some .int) 2 := ⟨wd_553, wd_432, by decide +kernel⟩
theorem okv_X8_poke : OkV yX8_poke := ⟨wd_554, wd_555⟩
theorem ok_X8_resize : OkY yX8_resize cX8_resize 4 (some .int) 1 := ⟨wd_556, wd_432, by decide +kernel⟩
theorem okv_X8_resize : OkV yX8_resize := ⟨wd_557, wd_558⟩
theorem ok_X8_push : OkY yX8_push cX8_push 2 (some .int) 1 := ⟨wd_559, wd_432, by decide +kernel⟩
theorem okv_X8_push : OkV yX8_push := ⟨wd_560, wd_561⟩
theorem ok_X8_pop : OkY yX8_pop cX8_pop 1 (some .int) 0 := ⟨wd_562, wd_432, by decide +kernel⟩
theorem okv_X8_pop : OkV yX8_pop := ⟨wd_563, wd_564⟩
theorem ok_X8_block : OkY yX8_block cX8_block 5 (some .int) 2 := ⟨wd_565, wd_432, by decide +kernel⟩
theorem okv_X8_block : OkV yX8_block := ⟨wd_566, wd_567⟩
theorem ok_X8_free : OkY yX8_free cX8_free 5 (some .int) 1 := ⟨wd_568, wd_432, by decide +kernel⟩
theorem okv_X8_free : OkV yX8_free := ⟨wd_569, wd_570⟩
theorem ok_X8_protect : OkY yX8_protect cX8_protect 3 (some .int) 2 := ⟨wd_571, wd_432, by decide +kernel⟩
theorem okv_X8_protect : OkV yX8_protect := ⟨wd_572, wd_573⟩
theorem ok_X8_save : OkY yX8_save cX8_save 4 (some .int) 0 := ⟨wd_574, wd_432, by decide +kernel⟩
theorem okv_X8_save : OkV yX8_save := ⟨wd_575, wd_576⟩
theorem ok_X8_load : OkY yX8_load cX8_load 3 (some .int) 0 := ⟨wd_577, wd_432, by decide +kernel⟩
theorem okv_X8_load : OkV yX8_load := ⟨wd_578, wd_579⟩
theorem ok_X8_fault : OkY yX8_fault cX8_fault 2 (some .int) 1 := ⟨wd_580, wd_432, by decide +kernel⟩
theorem okv_X8_fault : OkV yX8_fault := ⟨wd_581, wd_582⟩
theorem ok_X8_mark : OkY yX8_mark cX8_mark 3 (some .int) 0 := ⟨wd_583, wd_432, by decide +kernel⟩
theorem okv_X8_mark : OkV yX8_mark := ⟨wd_584, wd_585⟩
theorem ok_X8_undo : OkY yX8_undo cX8_undo 3 (some .int) 0 := ⟨wd_586, wd_432, by decide +kernel⟩
theorem okv_X8_undo : OkV yX8_undo := ⟨wd_587, wd_588⟩
theorem ok_X8_restart : OkY yX8_restart cX8_restart 2 (some .int) 0 := ⟨wd_589, wd_432, by decide +kernel⟩
theorem okv_X8_restart : OkV yX8_restart := ⟨wd_590, wd_591⟩
theorem ok_X8_at : OkY yX8_at cX8_at 2 (some .int) 1 := ⟨wd_592, wd_432, by decide +kernel⟩
theorem okv_X8_at : OkV yX8_at := ⟨wd_593, wd_594⟩
theorem ok_X8_alter : OkY yX8_alter cX8_alter 3 (some .int) 2 := ⟨wd_595, wd_432, by decide +kernel⟩
theorem okv_X8_alter : OkV yX8_alter := ⟨wd_596, wd_597⟩
theorem ok_X8_cut : OkY yX8_cut cX8_cut 3 (some .int) 1 := ⟨wd_598, wd_432, by decide +kernel⟩
theorem okv_X8_cut : OkV yX8_cut := ⟨wd_599, wd_600⟩
theorem ok_X8_more : OkY yX8_more cX8_more 5 (some .int) 2 := ⟨wd_601, wd_432, by decide +kernel⟩
theorem okv_X8_more : OkV yX8_more := ⟨wd_602, wd_603⟩
theorem ok_X8_seal : OkY yX8_seal cX8_seal 3 (some .int) 0 := ⟨wd_604, wd_432, by decide +kernel⟩
theorem okv_X8_seal : OkV yX8_seal := ⟨wd_605, wd_606⟩
theorem ok_X8_count : OkY yX8_count cX8_count 4 (some .int) 1 := ⟨wd_607, wd_432, by decide +kernel⟩
theorem okv_X8_count : OkV yX8_count := ⟨wd_608, wd_609⟩
theorem ok_X8_hash : OkY yX8_hash cX8_hash 3 (some .int) 0 := ⟨wd_610, wd_432, by decide +kernel⟩
theorem okv_X8_hash : OkV yX8_hash := ⟨wd_611, wd_612⟩
theorem ok_X7_init : OkY yX7_init cX7_init 4 none 3 := ⟨wd_613, wd_311, by decide +kernel⟩
theorem oki_X7_init : Cond.instanceMethod yX7_init ∈ GT ∧ yX7_init.name = "<init>" := ⟨wd_614, rfl⟩
theorem ok_X7_mark : OkY yX7_mark cX7_mark 1 (some .int) 0 := ⟨wd_615, wd_311, by decide +kernel⟩
theorem okv_X7_mark : OkV yX7_mark := ⟨wd_616, wd_617⟩
theorem ok_X7_undo : OkY yX7_undo cX7_undo 2 (some .int) 0 := ⟨wd_618, wd_311, by decide +kernel⟩
theorem okv_X7_undo : OkV yX7_undo := ⟨wd_619, wd_620⟩
theorem ok_X7_peek : OkY yX7_peek cX7_peek 2 (some .int) 1 := ⟨wd_621, wd_311, by decide +kernel⟩
theorem okv_X7_peek : OkV yX7_peek := ⟨wd_622, wd_623⟩
theorem ok_X7_poke : OkY yX7_poke cX7_poke 4 (some .int) 2 := ⟨wd_624, wd_311, by decide +kernel⟩
theorem okv_X7_poke : OkV yX7_poke := ⟨wd_625, wd_626⟩
theorem ok_X7_resize : OkY yX7_resize cX7_resize 3 (some .int) 1 := ⟨wd_627, wd_311, by decide +kernel⟩
theorem okv_X7_resize : OkV yX7_resize := ⟨wd_628, wd_629⟩
theorem ok_X7_push : OkY yX7_push cX7_push 2 (some .int) 1 := ⟨wd_630, wd_311, by decide +kernel⟩
theorem okv_X7_push : OkV yX7_push := ⟨wd_631, wd_632⟩
theorem ok_X7_block : OkY yX7_block cX7_block 3 (some .int) 2 := ⟨wd_633, wd_311, by decide +kernel⟩
theorem okv_X7_block : OkV yX7_block := ⟨wd_634, wd_635⟩
theorem ok_X7_free : OkY yX7_free cX7_free 3 (some .int) 1 := ⟨wd_636, wd_311, by decide +kernel⟩
theorem okv_X7_free : OkV yX7_free := ⟨wd_637, wd_638⟩
theorem ok_X7_protect : OkY yX7_protect cX7_protect 3 (some .int) 2 := ⟨wd_639, wd_311, by decide +kernel⟩
theorem okv_X7_protect : OkV yX7_protect := ⟨wd_640, wd_641⟩
theorem ok_X7_save : OkY yX7_save cX7_save 1 (some .int) 0 := ⟨wd_642, wd_311, by decide +kernel⟩
theorem okv_X7_save : OkV yX7_save := ⟨wd_643, wd_644⟩
theorem ok_X7_load : OkY yX7_load cX7_load 1 (some .int) 0 := ⟨wd_645, wd_311, by decide +kernel⟩
theorem okv_X7_load : OkV yX7_load := ⟨wd_646, wd_647⟩
theorem ok_X7_fault : OkY yX7_fault cX7_fault 2 (some .int) 1 := ⟨wd_648, wd_311, by decide +kernel⟩
theorem okv_X7_fault : OkV yX7_fault := ⟨wd_649, wd_650⟩
theorem ok_X7_restart : OkY yX7_restart cX7_restart 1 (some .int) 0 := ⟨wd_651, wd_311, by decide +kernel⟩
theorem okv_X7_restart : OkV yX7_restart := ⟨wd_652, wd_653⟩
theorem ok_X7_at : OkY yX7_at cX7_at 2 (some .int) 1 := ⟨wd_654, wd_311, by decide +kernel⟩
theorem okv_X7_at : OkV yX7_at := ⟨wd_655, wd_656⟩
theorem ok_X7_alter : OkY yX7_alter cX7_alter 4 (some .int) 2 := ⟨wd_657, wd_311, by decide +kernel⟩
theorem okv_X7_alter : OkV yX7_alter := ⟨wd_658, wd_659⟩
theorem ok_X7_cut : OkY yX7_cut cX7_cut 3 (some .int) 1 := ⟨wd_660, wd_311, by decide +kernel⟩
theorem okv_X7_cut : OkV yX7_cut := ⟨wd_661, wd_662⟩
theorem ok_X7_more : OkY yX7_more cX7_more 5 (some .int) 2 := ⟨wd_663, wd_311, by decide +kernel⟩
theorem okv_X7_more : OkV yX7_more := ⟨wd_664, wd_665⟩
theorem ok_X7_seal : OkY yX7_seal cX7_seal 2 (some .int) 0 := ⟨wd_666, wd_311, by decide +kernel⟩
theorem okv_X7_seal : OkV yX7_seal := ⟨wd_667, wd_668⟩
theorem ok_X7_count : OkY yX7_count cX7_count 2 (some .int) 1 := ⟨wd_669, wd_311, by decide +kernel⟩
theorem okv_X7_count : OkV yX7_count := ⟨wd_670, wd_671⟩
theorem ok_X7_hash : OkY yX7_hash cX7_hash 1 (some .int) 0 := ⟨wd_672, wd_311, by decide +kernel⟩
theorem okv_X7_hash : OkV yX7_hash := ⟨wd_673, wd_674⟩
