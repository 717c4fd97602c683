theorem GT_all {ws : List Cond} (ps : List Nat) (h : ws = ps.filterMap (fun i => lw_tbl[i]?)) (hg : ws.all goodWord = true) : ∀ w ∈ ws, w ∈ GT := fun w hw => by
  have hg1 := List.all_eq_true.mp hg w hw
  rw [h] at hw
  obtain ⟨i, -, hi⟩ := List.mem_filterMap.mp hw
  exact GT_mem i hi hg1
theorem wd_00384e4b : Cond.methodLink RX6 80 Lib.Math.min.name ∈ GT := GT_mem 399 (by decide +kernel) (by decide +kernel)
theorem wd_005d8e62 : Cond.methodLink RX3 52 yX3_forget ∈ GT := GT_mem 426 (by decide +kernel) (by decide +kernel)
set_option maxRecDepth 20000 in
theorem wd_00f8d7b0 : Cond.code yX7_protect cX7_protect 3 (some .int) ∈ GT := GT_mem 351 rfl (by decide +kernel)
theorem wd_011c7208 : Cond.fieldLink RX7 33 RX7 "draft" "LGlulxSaves$Bytes;" ∈ GT := GT_mem 253 (by decide +kernel) (by decide +kernel)
theorem wd_017087d8 : Cond.methodLink RL 76 yX7_mark ∈ GT := GT_mem 552 (by decide +kernel) (by decide +kernel)
theorem wd_025a4658 : Cond.selects RX3 yX3_readFront yX3_readFront ∈ GT := GT_mem 1 (by decide +kernel) (by decide +kernel)
theorem wd_02d26790 : Cond.fieldLink RX8 46 RX8 "undoBlocks" "[I" ∈ GT := GT_mem 743 (by decide +kernel) (by decide +kernel)
theorem wd_02dbd258 : Cond.instanceMethod yX1_blocksEnd ∈ GT := GT_mem 305 (by decide +kernel) (by decide +kernel)
set_option maxRecDepth 20000 in
theorem wd_036ca101 : Cond.code yX8_thrown cX8_thrown 1 (some .int) ∈ GT := GT_mem 861 rfl (by decide +kernel)
theorem wd_0411bd6f : Cond.methodLink RX0 3 objectInit ∈ GT := GT_mem 136 (by decide +kernel) (by decide +kernel)
set_option maxRecDepth 20000 in
theorem wd_050fec38 : Cond.code yX8_readHead cX8_readHead 3 none ∈ GT := GT_mem 971 rfl (by decide +kernel)
set_option maxRecDepth 20000 in
theorem wd_05338e08 : Cond.code yX7_init cX7_init 4 none ∈ GT := GT_mem 60 rfl (by decide +kernel)
set_option maxRecDepth 20000 in
theorem wd_05c63fd9 : Cond.code yX1_blockAt cX1_blockAt 3 (some .int) ∈ GT := GT_mem 343 rfl (by decide +kernel)
set_option maxRecDepth 20000 in
theorem wd_06bfa0f9 : Cond.code yX8_block cX8_block 5 (some .int) ∈ GT := GT_mem 891 rfl (by decide +kernel)
theorem wd_07afec74 : Cond.methodLink RX7 74 yX1_begin ∈ GT := GT_mem 241 (by decide +kernel) (by decide +kernel)
theorem wd_07b68a7e : Cond.constant RX8 157 (1229347411) ∈ GT := GT_mem 915 (by decide +kernel) (by decide +kernel)
theorem wd_087cf5cf : Cond.selects RX3 yX3_readStack yX3_readStack ∈ GT := GT_mem 15 (by decide +kernel) (by decide +kernel)
theorem wd_08809eb1 : Cond.selects RX1 yX1_addBlock yX1_addBlock ∈ GT := GT_mem 334 (by decide +kernel) (by decide +kernel)
theorem wd_093d6d24 : Cond.methodLink RX0 23 arraycopyName ∈ GT := GT_mem 417 (by decide +kernel) (by decide +kernel)
theorem wd_096330eb : Cond.methodLink RL 80 yX7_undo ∈ GT := GT_mem 565 (by decide +kernel) (by decide +kernel)
theorem wd_09bb08f8 : Cond.selects RX8 yX8_seal yX8_seal ∈ GT := GT_mem 1027 (by decide +kernel) (by decide +kernel)
theorem wd_09e6b058 : Cond.methodLink RX3 72 yX1_begin ∈ GT := GT_mem 430 (by decide +kernel) (by decide +kernel)
theorem wd_0a482410 : Cond.selects RX1 yX1_removeBlock yX1_removeBlock ∈ GT := GT_mem 346 (by decide +kernel) (by decide +kernel)
theorem wd_0ad8b160 : Cond.instanceMethod yX8_fail ∈ GT := GT_mem 954 (by decide +kernel) (by decide +kernel)
theorem wd_0b1f0df0 : Cond.instanceMethod yX4_init ∈ GT := GT_mem 171 (by decide +kernel) (by decide +kernel)
theorem wd_0b6798c7 : Cond.fieldLink RX8 13 RX8 "stack" "[I" ∈ GT := GT_mem 723 (by decide +kernel) (by decide +kernel)
set_option maxRecDepth 20000 in
theorem wd_0ba1feaa : Cond.code yX1_fits cX1_fits 5 (some .boolean) ∈ GT := GT_mem 330 rfl (by decide +kernel)
theorem wd_0c2695f9 : Cond.fieldLink RX6 97 RX1 "lengths" "[I" ∈ GT := GT_mem 86 (by decide +kernel) (by decide +kernel)
set_option maxRecDepth 20000 in
theorem wd_0cfb73a9 : Cond.code yX8_pop cX8_pop 1 (some .int) ∈ GT := GT_mem 887 rfl (by decide +kernel)
theorem wd_0d7cf2ee : Cond.fieldLink RX8 34 RX8 "undoM" "[I" ∈ GT := GT_mem 739 (by decide +kernel) (by decide +kernel)
theorem wd_0da8410f : Cond.methodLink RX0 29 yX0_setByte ∈ GT := GT_mem 372 (by decide +kernel) (by decide +kernel)
theorem wd_0db912c7 : Cond.fieldLink RX7 53 RX7 "latestPlace" "I" ∈ GT := GT_mem 259 (by decide +kernel) (by decide +kernel)
theorem wd_0dd14daf : Cond.selects RX1 yX1_blockAt yX1_blockAt ∈ GT := GT_mem 342 (by decide +kernel) (by decide +kernel)
theorem wd_0e100aa8 : Cond.instanceMethod yX1_addInt ∈ GT := GT_mem 317 (by decide +kernel) (by decide +kernel)
theorem wd_0e1b34fd : Cond.constantLong RX8 125 (64) ∈ GT := GT_mem 892 (by decide +kernel) (by decide +kernel)
theorem wd_0ee1a0b5 : Cond.fieldLink RX6 87 RX1 "depth" "I" ∈ GT := GT_mem 82 (by decide +kernel) (by decide +kernel)
theorem wd_0f5f9aba : Cond.static arraycopyName ∈ GT := GT_mem 246 (by decide +kernel) (by decide +kernel)
theorem wd_0f9d27a9 : Cond.static yX6_writeFile ∈ GT := GT_mem 361 (by decide +kernel) (by decide +kernel)
theorem wd_1000dc45 : Cond.constantLong RL 100 (4294967295) ∈ GT := GT_mem 1037 (by decide +kernel) (by decide +kernel)
theorem wd_101176e0 : Cond.fieldLink RX3 25 RX3 "fault" "I" ∈ GT := GT_mem 211 (by decide +kernel) (by decide +kernel)
theorem wd_102bab9b : Cond.selects RX8 yX8_putMemory yX8_putMemory ∈ GT := GT_mem 27 (by decide +kernel) (by decide +kernel)
theorem wd_1036ac9e : Cond.methodLink RX7 195 yX0_byteAt ∈ GT := GT_mem 582 (by decide +kernel) (by decide +kernel)
set_option maxRecDepth 20000 in
theorem wd_10c05404 : Cond.code yX8_resize cX8_resize 4 (some .int) ∈ GT := GT_mem 874 rfl (by decide +kernel)
theorem wd_1106f180 : Cond.static yX3_lengthIsRight ∈ GT := GT_mem 486 (by decide +kernel) (by decide +kernel)
theorem wd_11591c3a : Cond.instanceMethod yX3_readSize ∈ GT := GT_mem 506 (by decide +kernel) (by decide +kernel)
theorem wd_1185919b : Cond.methodLink RX7 145 yX6_writeFile ∈ GT := GT_mem 360 (by decide +kernel) (by decide +kernel)
theorem wd_11ab8888 : Cond.fieldLink RX8 79 RX8 "seed" "I" ∈ GT := GT_mem 717 (by decide +kernel) (by decide +kernel)
theorem wd_1240da90 : Cond.instanceMethod yX8_pop ∈ GT := GT_mem 885 (by decide +kernel) (by decide +kernel)
theorem wd_1248ab5e : Cond.fieldLink RX8 25 RX8 "otherName" "[I" ∈ GT := GT_mem 732 (by decide +kernel) (by decide +kernel)
theorem wd_134b35f1 : Cond.classLink RX5 9 RX1 ∈ GT := GT_mem 157 (by decide +kernel) (by decide +kernel)
set_option maxRecDepth 20000 in
theorem wd_13baa642 : Cond.code yX3_readFront cX3_readFront 2 (some .boolean) ∈ GT := GT_mem 434 rfl (by decide +kernel)
theorem wd_1456029b : Cond.fieldLink RX3 42 RX3 "sawStack" "Z" ∈ GT := GT_mem 218 (by decide +kernel) (by decide +kernel)
theorem wd_146e6486 : Cond.methodLink RL 63 yX8_protect ∈ GT := GT_mem 897 (by decide +kernel) (by decide +kernel)
set_option maxRecDepth 20000 in
theorem wd_152d737a : Cond.code yX8_at cX8_at 2 (some .int) ∈ GT := GT_mem 1011 rfl (by decide +kernel)
theorem wd_15845deb : Cond.fieldLink RX0 19 RX0 "overflowed" "Z" ∈ GT := GT_mem 142 (by decide +kernel) (by decide +kernel)
theorem wd_15926329 : Cond.instanceMethod yX3_forget ∈ GT := GT_mem 428 (by decide +kernel) (by decide +kernel)
theorem wd_16fdfe10 : Cond.methodLink RX7 142 yX0_clear ∈ GT := GT_mem 356 (by decide +kernel) (by decide +kernel)
theorem wd_171c7860 : Cond.instanceMethod yX8_more ∈ GT := GT_mem 1021 (by decide +kernel) (by decide +kernel)
theorem wd_17be1d9c : Cond.selects RX8 yX8_pop yX8_pop ∈ GT := GT_mem 886 (by decide +kernel) (by decide +kernel)
theorem wd_181860e5 : Cond.methodLink RL 48 yX8_pop ∈ GT := GT_mem 884 (by decide +kernel) (by decide +kernel)
theorem wd_18b61737 : Cond.methodLink RX1 39 arraycopyName ∈ GT := GT_mem 245 (by decide +kernel) (by decide +kernel)
theorem wd_192e4409 : Cond.selects RX7 yX7_free yX7_free ∈ GT := GT_mem 338 (by decide +kernel) (by decide +kernel)
set_option maxRecDepth 20000 in
theorem wd_197f6416 : Cond.code yX6_writeZeros cX6_writeZeros 3 none ∈ GT := GT_mem 398 rfl (by decide +kernel)
set_option maxRecDepth 20000 in
theorem wd_1acf348c : Cond.code yX7_at cX7_at 2 (some .int) ∈ GT := GT_mem 580 rfl (by decide +kernel)
theorem wd_1b84be9a : Cond.fieldLink RX7 151 RX0 "overflowed" "Z" ∈ GT := GT_mem 143 (by decide +kernel) (by decide +kernel)
set_option maxRecDepth 20000 in
theorem wd_1bc71520 : Cond.code yX8_free cX8_free 5 (some .int) ∈ GT := GT_mem 896 rfl (by decide +kernel)
theorem wd_1c73391c : Cond.methodLink RX6 51 yX0_add ∈ GT := GT_mem 384 (by decide +kernel) (by decide +kernel)
theorem wd_1ca8b85a : Cond.instantiable RX3 10 ∈ GT := GT_mem 197 (by decide +kernel) (by decide +kernel)
set_option maxRecDepth 20000 in
theorem wd_1cbb88bc : Cond.code yX5_init cX5_init 2 none ∈ GT := GT_mem 155 rfl (by decide +kernel)
theorem wd_1cec0843 : Cond.methodLink RX8 87 yX8_in ∈ GT := GT_mem 707 (by decide +kernel) (by decide +kernel)
theorem wd_1d155712 : Cond.selects RX8 yX8_move yX8_move ∈ GT := GT_mem 39 (by decide +kernel) (by decide +kernel)
theorem wd_1d1e053c : Cond.selects RX8 yX8_readBlocks yX8_readBlocks ∈ GT := GT_mem 37 (by decide +kernel) (by decide +kernel)
theorem wd_1d3bbb7c : Cond.methodLink RX3 108 yX3_lengthMayBe ∈ GT := GT_mem 481 (by decide +kernel) (by decide +kernel)
set_option maxRecDepth 20000 in
theorem wd_1d6ac684 : Cond.codeWith yL_pop cL_pop 3 (some .int) [(0, 8, 11, 13)] ∈ GT := GT_mem 623 rfl (by decide +kernel)
theorem wd_1dce9b0d : Cond.selects RX7 yX7_undo yX7_undo ∈ GT := GT_mem 567 (by decide +kernel) (by decide +kernel)
theorem wd_1e19b18f : Cond.methodLink RX7 87 yX7_isByte ∈ GT := GT_mem 293 (by decide +kernel) (by decide +kernel)
theorem wd_1ee629a3 : Cond.instanceMethod yX1_removeBlock ∈ GT := GT_mem 345 (by decide +kernel) (by decide +kernel)
theorem wd_1f271a0c : Cond.selects RX1 yX1_addInt yX1_addInt ∈ GT := GT_mem 318 (by decide +kernel) (by decide +kernel)
theorem wd_1f8431f4 : Cond.selects RX7 yX7_alter yX7_alter ∈ GT := GT_mem 585 (by decide +kernel) (by decide +kernel)
theorem wd_1fe8d262 : Cond.methodLink RX3 84 yX3_readLetters ∈ GT := GT_mem 436 (by decide +kernel) (by decide +kernel)
theorem wd_20db0b98 : Cond.fieldLink RX1 22 RX1 "depth" "I" ∈ GT := GT_mem 80 (by decide +kernel) (by decide +kernel)
theorem wd_21040141 : Cond.fieldLink RX8 173 RX8 "nowAt" "I" ∈ GT := GT_mem 762 (by decide +kernel) (by decide +kernel)
theorem wd_21690256 : Cond.methodLink RX1 48 Lib.Math.min.name ∈ GT := GT_mem 542 (by decide +kernel) (by decide +kernel)
theorem wd_216fd7fb : Cond.instanceMethod yX7_load ∈ GT := GT_mem 419 (by decide +kernel) (by decide +kernel)
set_option maxRecDepth 20000 in
theorem wd_2224d2a8 : Cond.code yX7_more cX7_more 5 (some .int) ∈ GT := GT_mem 595 rfl (by decide +kernel)
set_option maxRecDepth 20000 in
theorem wd_22a8d00e : Cond.code yX0_addFour cX0_addFour 3 none ∈ GT := GT_mem 367 rfl (by decide +kernel)
theorem wd_22b8d496 : Cond.selects RX7 yX7_cut yX7_cut ∈ GT := GT_mem 590 (by decide +kernel) (by decide +kernel)
theorem wd_22c3b6e1 : Cond.fieldLink RX8 55 RX8 "making" "[I" ∈ GT := GT_mem 747 (by decide +kernel) (by decide +kernel)
set_option maxRecDepth 20000 in
theorem wd_22cffca6 : Cond.code yX7_poke cX7_poke 4 (some .int) ∈ GT := GT_mem 292 rfl (by decide +kernel)
theorem wd_2308583d : Cond.methodLink RX3 112 yX3_isWhole ∈ GT := GT_mem 492 (by decide +kernel) (by decide +kernel)
theorem wd_236efa16 : Cond.instanceMethod yX8_close ∈ GT := GT_mem 923 (by decide +kernel) (by decide +kernel)
set_option maxRecDepth 20000 in
theorem wd_2378a289 : Cond.code yX8_hash cX8_hash 3 (some .int) ∈ GT := GT_mem 1036 rfl (by decide +kernel)
theorem wd_23816775 : Cond.instanceMethod yX8_readBlocks ∈ GT := GT_mem 982 (by decide +kernel) (by decide +kernel)
theorem wd_23dae009 : Cond.instanceMethod yX3_readChunk ∈ GT := GT_mem 468 (by decide +kernel) (by decide +kernel)
theorem wd_23fd1274 : Cond.methodLink RX7 205 yX0_setFour ∈ GT := GT_mem 601 (by decide +kernel) (by decide +kernel)
theorem wd_243b7393 : Cond.fieldLink RX8 73 RX8 "newLong" "[I" ∈ GT := GT_mem 758 (by decide +kernel) (by decide +kernel)
theorem wd_24c29710 : Cond.instanceMethod yX8_putMemory ∈ GT := GT_mem 931 (by decide +kernel) (by decide +kernel)
theorem wd_24e234e5 : Cond.methodLink RL 60 yX7_protect ∈ GT := GT_mem 348 (by decide +kernel) (by decide +kernel)
theorem wd_25380f5c : Cond.methodLink RX3 174 yX1_blocksEnd ∈ GT := GT_mem 522 (by decide +kernel) (by decide +kernel)
theorem wd_2597ac47 : Cond.fieldLink RX8 224 RX8 "newStackLong" "I" ∈ GT := GT_mem 751 (by decide +kernel) (by decide +kernel)
theorem wd_2603678b : Cond.arrayClass .long ∈ GT := GT_mem 1038 (by decide +kernel) (by decide +kernel)
theorem wd_261bed27 : Cond.methodLink RL 111 yX7_count ∈ GT := GT_mem 602 (by decide +kernel) (by decide +kernel)
theorem wd_273374b8 : Cond.selects RX8 yX8_readStack yX8_readStack ∈ GT := GT_mem 36 (by decide +kernel) (by decide +kernel)
theorem wd_27a369cf : Cond.selects RX8 yX8_original yX8_original ∈ GT := GT_mem 20 (by decide +kernel) (by decide +kernel)
set_option maxRecDepth 20000 in
theorem wd_2859f3a7 : Cond.code yX8_load cX8_load 3 (some .int) ∈ GT := GT_mem 939 rfl (by decide +kernel)
theorem wd_28a94f03 : Cond.selects RX8 yX8_save yX8_save ∈ GT := GT_mem 904 (by decide +kernel) (by decide +kernel)
set_option maxRecDepth 20000 in
theorem wd_28aa343d : Cond.code yX8_undo cX8_undo 3 (some .int) ∈ GT := GT_mem 1003 rfl (by decide +kernel)
theorem wd_295c1ba6 : Cond.instanceMethod yX7_restart ∈ GT := GT_mem 574 (by decide +kernel) (by decide +kernel)
theorem wd_299336a9 : Cond.static yX6_writeMemory ∈ GT := GT_mem 393 (by decide +kernel) (by decide +kernel)
theorem wd_29ee5a63 : Cond.fieldLink RX7 105 RX1 "depth" "I" ∈ GT := GT_mem 81 (by decide +kernel) (by decide +kernel)
set_option maxRecDepth 20000 in
theorem wd_2aaf8812 : Cond.code yX8_cut cX8_cut 3 (some .int) ∈ GT := GT_mem 1019 rfl (by decide +kernel)
theorem wd_2b252e7d : Cond.fieldLink RX8 206 RX8 "newOthers" "I" ∈ GT := GT_mem 756 (by decide +kernel) (by decide +kernel)
theorem wd_2baccb12 : Cond.selects RX3 yX3_read yX3_read ∈ GT := GT_mem 424 (by decide +kernel) (by decide +kernel)
theorem wd_2c22048f : Cond.methodLink RL 110 yX8_seal ∈ GT := GT_mem 1025 (by decide +kernel) (by decide +kernel)
theorem wd_2ce55027 : Cond.instanceMethod yX8_fault ∈ GT := GT_mem 989 (by decide +kernel) (by decide +kernel)
theorem wd_2d233367 : Cond.methodLink RL 72 yX7_fault ∈ GT := GT_mem 548 (by decide +kernel) (by decide +kernel)
theorem wd_2d51e499 : Cond.selects RX1 yX1_fits yX1_fits ∈ GT := GT_mem 329 (by decide +kernel) (by decide +kernel)
theorem wd_2e466e69 : Cond.instanceMethod yX8_put ∈ GT := GT_mem 913 (by decide +kernel) (by decide +kernel)
theorem wd_2e96cc72 : Cond.instanceMethod yX2_bytesInAll ∈ GT := GT_mem 607 (by decide +kernel) (by decide +kernel)
theorem wd_2ec6af59 : Cond.initialized RL ∈ GT := GT_mem 40 (by decide +kernel) (by decide +kernel)
theorem wd_2f3d4f9b : Cond.methodLink RL 107 yX7_seal ∈ GT := GT_mem 597 (by decide +kernel) (by decide +kernel)
theorem wd_2f64a7ae : Cond.fieldLink RX1 28 RX1 "lengths" "[I" ∈ GT := GT_mem 85 (by decide +kernel) (by decide +kernel)
theorem wd_2f854dda : Cond.selects RX3 yX3_readSize yX3_readSize ∈ GT := GT_mem 13 (by decide +kernel) (by decide +kernel)
theorem wd_2fe40b05 : Cond.fieldLink RX8 233 RX8 "wasFault" "Z" ∈ GT := GT_mem 735 (by decide +kernel) (by decide +kernel)
theorem wd_2fe9664d : Cond.initialized RX4 ∈ GT := GT_mem 46 (by decide +kernel) (by decide +kernel)
theorem wd_2fece980 : Cond.classLink RX3 9 RX1 ∈ GT := GT_mem 202 (by decide +kernel) (by decide +kernel)
theorem wd_2ff158d6 : Cond.methodLink RX6 40 yX6_writeOthers ∈ GT := GT_mem 410 (by decide +kernel) (by decide +kernel)
set_option maxRecDepth 20000 in
theorem wd_301d6e87 : Cond.code yX2_become cX2_become 2 none ∈ GT := GT_mem 546 rfl (by decide +kernel)
set_option maxRecDepth 20000 in
theorem wd_3084922d : Cond.code yX3_lengthMayBe cX3_lengthMayBe 4 (some .boolean) ∈ GT := GT_mem 484 rfl (by decide +kernel)
theorem wd_30cca9c2 : Cond.fieldLink RX1 25 RX1 "starts" "[I" ∈ GT := GT_mem 83 (by decide +kernel) (by decide +kernel)
theorem wd_30ed2848 : Cond.initialized RX5 ∈ GT := GT_mem 45 (by decide +kernel) (by decide +kernel)
theorem wd_30f36182 : Cond.methodLink RX7 198 yX0_setByte ∈ GT := GT_mem 587 (by decide +kernel) (by decide +kernel)
theorem wd_31ac4446 : Cond.fieldLink RX8 70 RX8 "newName" "[I" ∈ GT := GT_mem 757 (by decide +kernel) (by decide +kernel)
theorem wd_326ba59e : Cond.fieldLink RX2 19 RX2 "lengths" "[I" ∈ GT := GT_mem 118 (by decide +kernel) (by decide +kernel)
theorem wd_327efb4f : Cond.constantLong RX3 88 (4) ∈ GT := GT_mem 456 (by decide +kernel) (by decide +kernel)
set_option maxRecDepth 20000 in
theorem wd_32ee8c0c : Cond.code yX1_removeBlock cX1_removeBlock 4 (some .int) ∈ GT := GT_mem 347 rfl (by decide +kernel)
set_option maxRecDepth 20000 in
theorem wd_33004528 : Cond.code yX1_changeSize cX1_changeSize 3 none ∈ GT := GT_mem 311 rfl (by decide +kernel)
set_option maxRecDepth 20000 in
theorem wd_33279b55 : Cond.code yX3_readChunk cX3_readChunk 5 (some .boolean) ∈ GT := GT_mem 469 rfl (by decide +kernel)
theorem wd_33d6446d : Cond.constantLong RX8 252 (8) ∈ GT := GT_mem 1024 (by decide +kernel) (by decide +kernel)
theorem wd_33de951b : Cond.instanceMethod yX7_free ∈ GT := GT_mem 337 (by decide +kernel) (by decide +kernel)
set_option maxRecDepth 20000 in
theorem wd_340b372c : Cond.code yX3_readBlocks cX3_readBlocks 9 (some .boolean) ∈ GT := GT_mem 521 rfl (by decide +kernel)
theorem wd_3465a4ee : Cond.selects RX5 yX5_dropEldest yX5_dropEldest ∈ GT := GT_mem 18 (by decide +kernel) (by decide +kernel)
theorem wd_34ecf5e3 : Cond.static yX7_isBlockLength ∈ GT := GT_mem 325 (by decide +kernel) (by decide +kernel)
theorem wd_34f3aec9 : Cond.instanceMethod yX8_original ∈ GT := GT_mem 714 (by decide +kernel) (by decide +kernel)
theorem wd_3523ea50 : Cond.static yX6_writeZeros ∈ GT := GT_mem 397 (by decide +kernel) (by decide +kernel)
theorem wd_35eaa7f4 : Cond.methodLink RL 64 yX7_save ∈ GT := GT_mem 352 (by decide +kernel) (by decide +kernel)
theorem wd_3603262f : Cond.instanceMethod yX8_isGuarded ∈ GT := GT_mem 986 (by decide +kernel) (by decide +kernel)
set_option maxRecDepth 20000 in
theorem wd_36171cff : Cond.code yX3_readSize cX3_readSize 4 (some .boolean) ∈ GT := GT_mem 507 rfl (by decide +kernel)
theorem wd_364e7591 : Cond.initialized RX8 ∈ GT := GT_mem 49 (by decide +kernel) (by decide +kernel)
set_option maxRecDepth 20000 in
theorem wd_365c9a2a : Cond.code yX8_putMemory cX8_putMemory 6 none ∈ GT := GT_mem 932 rfl (by decide +kernel)
theorem wd_370c4d34 : Cond.instanceMethod yX8_readAll ∈ GT := GT_mem 942 (by decide +kernel) (by decide +kernel)
set_option maxRecDepth 20000 in
theorem wd_3770aad3 : Cond.code yX8_fault cX8_fault 2 (some .int) ∈ GT := GT_mem 991 rfl (by decide +kernel)
theorem wd_37718511 : Cond.initialized RX6 ∈ GT := GT_mem 54 (by decide +kernel) (by decide +kernel)
theorem wd_37d485f0 : Cond.selects RX3 yX3_readHead yX3_readHead ∈ GT := GT_mem 12 (by decide +kernel) (by decide +kernel)
theorem wd_383b8cd8 : Cond.fieldLink RX8 91 RX8 "ram" "I" ∈ GT := GT_mem 718 (by decide +kernel) (by decide +kernel)
theorem wd_39aa5d07 : Cond.methodLink RX8 182 yX8_has ∈ GT := GT_mem 948 (by decide +kernel) (by decide +kernel)
theorem wd_39ab3582 : Cond.methodLink RX7 212 yX1_number ∈ GT := GT_mem 614 (by decide +kernel) (by decide +kernel)
theorem wd_39adb2b4 : Cond.selects RX8 yX8_readChunk yX8_readChunk ∈ GT := GT_mem 33 (by decide +kernel) (by decide +kernel)
theorem wd_39e82996 : Cond.methodLink RX3 64 yX3_readChunk ∈ GT := GT_mem 466 (by decide +kernel) (by decide +kernel)
theorem wd_39e86544 : Cond.instanceMethod yX0_become ∈ GT := GT_mem 414 (by decide +kernel) (by decide +kernel)
theorem wd_3b184e6c : Cond.fieldLink RX0 15 RX0 "size" "I" ∈ GT := GT_mem 138 (by decide +kernel) (by decide +kernel)
theorem wd_3b194652 : Cond.fieldLink RX3 152 RX4 "original" "[I" ∈ GT := GT_mem 188 (by decide +kernel) (by decide +kernel)
theorem wd_3b64303f : Cond.methodLink RL 49 yX8_thrown ∈ GT := GT_mem 858 (by decide +kernel) (by decide +kernel)
theorem wd_3bb0f81d : Cond.fieldLink RX7 22 RX7 "others" "LGlulxSaves$Others;" ∈ GT := GT_mem 251 (by decide +kernel) (by decide +kernel)
theorem wd_3beb878e : Cond.methodLink RX8 186 yX8_letters ∈ GT := GT_mem 944 (by decide +kernel) (by decide +kernel)
theorem wd_3c74935d : Cond.methodLink RX3 94 yX3_readWholeLength ∈ GT := GT_mem 457 (by decide +kernel) (by decide +kernel)
theorem wd_3c94795b : Cond.instanceMethod yX7_protect ∈ GT := GT_mem 349 (by decide +kernel) (by decide +kernel)
theorem wd_3cc3c049 : Cond.selects RX8 yX8_hash yX8_hash ∈ GT := GT_mem 1035 (by decide +kernel) (by decide +kernel)
theorem wd_3d2429aa : Cond.static yX6_openChunk ∈ GT := GT_mem 382 (by decide +kernel) (by decide +kernel)
theorem wd_3dfb2990 : Cond.selects RX2 yX2_bytesInAll yX2_bytesInAll ∈ GT := GT_mem 608 (by decide +kernel) (by decide +kernel)
theorem wd_3dfe010c : Cond.fieldLink RX7 159 RX0 "size" "I" ∈ GT := GT_mem 141 (by decide +kernel) (by decide +kernel)
theorem wd_3f256578 : Cond.methodLink RX7 128 yX1_addBlock ∈ GT := GT_mem 332 (by decide +kernel) (by decide +kernel)
theorem wd_3f572326 : Cond.methodLink RL 36 yX8_poke ∈ GT := GT_mem 866 (by decide +kernel) (by decide +kernel)
theorem wd_3f712f62 : Cond.fieldLink RX3 35 RX3 "sawHead" "Z" ∈ GT := GT_mem 216 (by decide +kernel) (by decide +kernel)
theorem wd_3fa7664b : Cond.methodLink RX8 215 yX8_readStack ∈ GT := GT_mem 976 (by decide +kernel) (by decide +kernel)
theorem wd_3faecc0a : Cond.instanceMethod yX8_resize ∈ GT := GT_mem 872 (by decide +kernel) (by decide +kernel)
theorem wd_4027f4b6 : Cond.selects RX1 yX1_begin yX1_begin ∈ GT := GT_mem 243 (by decide +kernel) (by decide +kernel)
set_option maxRecDepth 20000 in
theorem wd_40346968 : Cond.code yX7_save cX7_save 1 (some .int) ∈ GT := GT_mem 355 rfl (by decide +kernel)
theorem wd_403dd49b : Cond.methodLink RX7 181 yX5_keep ∈ GT := GT_mem 556 (by decide +kernel) (by decide +kernel)
theorem wd_4041e156 : Cond.fieldLink RX1 19 RX1 "stack" "[I" ∈ GT := GT_mem 78 (by decide +kernel) (by decide +kernel)
set_option maxRecDepth 20000 in
theorem wd_405fc2b3 : Cond.code yX1_addInt cX1_addInt 2 (some .boolean) ∈ GT := GT_mem 319 rfl (by decide +kernel)
theorem wd_40cb1414 : Cond.selects RX0 yX0_byteAt yX0_byteAt ∈ GT := GT_mem 454 (by decide +kernel) (by decide +kernel)
theorem wd_40f3f451 : Cond.methodLink RX8 209 yX8_readHead ∈ GT := GT_mem 968 (by decide +kernel) (by decide +kernel)
set_option maxRecDepth 20000 in
theorem wd_411d1f55 : Cond.code yX7_push cX7_push 2 (some .int) ∈ GT := GT_mem 315 rfl (by decide +kernel)
theorem wd_414b25af : Cond.fieldLink RX8 98 RX8 "end" "I" ∈ GT := GT_mem 719 (by decide +kernel) (by decide +kernel)
theorem wd_41c784e1 : Cond.fieldLink RX1 15 RX1 "size" "I" ∈ GT := GT_mem 74 (by decide +kernel) (by decide +kernel)
theorem wd_4240ada3 : Cond.classLink RX7 19 RX2 ∈ GT := GT_mem 106 (by decide +kernel) (by decide +kernel)
theorem wd_4267787a : Cond.fieldLink RX8 246 RX8 "undos" "I" ∈ GT := GT_mem 738 (by decide +kernel) (by decide +kernel)
theorem wd_427b6b2a : Cond.fieldLink RX2 22 RX2 "bytes" "[I" ∈ GT := GT_mem 120 (by decide +kernel) (by decide +kernel)
theorem wd_4287f489 : Cond.instantiable RX5 2 ∈ GT := GT_mem 152 (by decide +kernel) (by decide +kernel)
set_option maxRecDepth 20000 in
theorem wd_42c1baf7 : Cond.code yX8_fail cX8_fail 3 none ∈ GT := GT_mem 955 rfl (by decide +kernel)
theorem wd_4381532a : Cond.methodLink RX8 145 yX8_putAt ∈ GT := GT_mem 925 (by decide +kernel) (by decide +kernel)
set_option maxRecDepth 20000 in
theorem wd_43bbc95d : Cond.code yX7_isBlockLength cX7_isBlockLength 1 (some .boolean) ∈ GT := GT_mem 326 rfl (by decide +kernel)
theorem wd_43fba336 : Cond.fieldLink RX8 19 RX8 "lengths" "[I" ∈ GT := GT_mem 726 (by decide +kernel) (by decide +kernel)
theorem wd_445f930b : Cond.fieldLink RX3 165 RX1 "memory" "[I" ∈ GT := GT_mem 73 (by decide +kernel) (by decide +kernel)
theorem wd_447831b8 : Cond.methodLink RX6 37 yX6_writeBlocks ∈ GT := GT_mem 406 (by decide +kernel) (by decide +kernel)
theorem wd_449e3df7 : Cond.fieldLink RX2 15 RX2 "letters" "[I" ∈ GT := GT_mem 116 (by decide +kernel) (by decide +kernel)
theorem wd_449f795d : Cond.instanceMethod objectInit ∈ GT := GT_mem 62 (by decide +kernel) (by decide +kernel)
theorem wd_44b6f76b : Cond.instanceMethod yX8_restart ∈ GT := GT_mem 1005 (by decide +kernel) (by decide +kernel)
theorem wd_45600e8f : Cond.fieldLink RX8 76 RX8 "newByte" "[I" ∈ GT := GT_mem 759 (by decide +kernel) (by decide +kernel)
theorem wd_45987fbd : Cond.fieldLink RX7 50 RX7 "latestFault" "I" ∈ GT := GT_mem 258 (by decide +kernel) (by decide +kernel)
theorem wd_45af62f8 : Cond.classLink RX7 65 RX3 ∈ GT := GT_mem 196 (by decide +kernel) (by decide +kernel)
theorem wd_460a2223 : Cond.constantLong RX8 111 (512) ∈ GT := GT_mem 879 (by decide +kernel) (by decide +kernel)
set_option maxRecDepth 20000 in
theorem wd_4612b992 : Cond.code yX0_add cX0_add 2 none ∈ GT := GT_mem 371 rfl (by decide +kernel)
theorem wd_464c993c : Cond.selects RX8 yX8_has yX8_has ∈ GT := GT_mem 30 (by decide +kernel) (by decide +kernel)
theorem wd_4689a26b : Cond.fieldLink RX6 59 RX4 "original" "[I" ∈ GT := GT_mem 187 (by decide +kernel) (by decide +kernel)
theorem wd_46963ff7 : Cond.methodLink RX7 124 yX1_fits ∈ GT := GT_mem 327 (by decide +kernel) (by decide +kernel)
set_option maxRecDepth 20000 in
theorem wd_46b33484 : Cond.code yX3_read cX3_read 3 (some .boolean) ∈ GT := GT_mem 425 rfl (by decide +kernel)
theorem wd_46bb2764 : Cond.instanceMethod yX3_mayCome ∈ GT := GT_mem 472 (by decide +kernel) (by decide +kernel)
theorem wd_47758689 : Cond.fieldLink RX7 10 RX7 "now" "LGlulxSaves$Machine;" ∈ GT := GT_mem 249 (by decide +kernel) (by decide +kernel)
theorem wd_47cd1e34 : Cond.instanceMethod yX3_reaches ∈ GT := GT_mem 442 (by decide +kernel) (by decide +kernel)
set_option maxRecDepth 20000 in
theorem wd_481265b2 : Cond.code yX5_keep cX5_keep 2 none ∈ GT := GT_mem 559 rfl (by decide +kernel)
set_option maxRecDepth 20000 in
theorem wd_488a0840 : Cond.code yX3_readWholeLength cX3_readWholeLength 2 (some .boolean) ∈ GT := GT_mem 460 rfl (by decide +kernel)
theorem wd_48a99232 : Cond.selects RX2 yX2_addFrom yX2_addFrom ∈ GT := GT_mem 530 (by decide +kernel) (by decide +kernel)
theorem wd_48ebaccd : Cond.methodLink RL 96 yX7_cut ∈ GT := GT_mem 588 (by decide +kernel) (by decide +kernel)
set_option maxRecDepth 20000 in
theorem wd_48fde8f6 : Cond.code yX3_reaches cX3_reaches 5 (some .boolean) ∈ GT := GT_mem 443 rfl (by decide +kernel)
theorem wd_491a4ae5 : Cond.fieldLink RX4 19 RX4 "ram" "I" ∈ GT := GT_mem 177 (by decide +kernel) (by decide +kernel)
theorem wd_4969d534 : Cond.static yX6_writeBlocks ∈ GT := GT_mem 407 (by decide +kernel) (by decide +kernel)
theorem wd_49726459 : Cond.fieldLink RX3 161 RX1 "size" "I" ∈ GT := GT_mem 77 (by decide +kernel) (by decide +kernel)
theorem wd_49741db3 : Cond.methodLink RX8 212 yX8_readMemory ∈ GT := GT_mem 972 (by decide +kernel) (by decide +kernel)
theorem wd_49ea5413 : Cond.instanceMethod yX1_addBlock ∈ GT := GT_mem 333 (by decide +kernel) (by decide +kernel)
theorem wd_4a0f7976 : Cond.methodLink RL 79 yX8_mark ∈ GT := GT_mem 992 (by decide +kernel) (by decide +kernel)
theorem wd_4a1b47ad : Cond.methodLink RX3 90 yX3_reaches ∈ GT := GT_mem 440 (by decide +kernel) (by decide +kernel)
theorem wd_4a4486fd : Cond.methodLink RX6 27 yX6_writeStack ∈ GT := GT_mem 402 (by decide +kernel) (by decide +kernel)
theorem wd_4a5927d9 : Cond.methodLink RX6 17 yX6_writeHead ∈ GT := GT_mem 377 (by decide +kernel) (by decide +kernel)
set_option maxRecDepth 20000 in
theorem wd_4ab1b125 : Cond.code yX6_writeStack cX6_writeStack 4 none ∈ GT := GT_mem 404 rfl (by decide +kernel)
theorem wd_4bc456d2 : Cond.selects RX8 yX8_putFour yX8_putFour ∈ GT := GT_mem 22 (by decide +kernel) (by decide +kernel)
theorem wd_4c2258a9 : Cond.selects RX1 yX1_blocksEnd yX1_blocksEnd ∈ GT := GT_mem 306 (by decide +kernel) (by decide +kernel)
theorem wd_4cb9237d : Cond.constant RX6 86 (1400138611) ∈ GT := GT_mem 405 (by decide +kernel) (by decide +kernel)
set_option maxRecDepth 20000 in
theorem wd_4cbfea54 : Cond.code yX3_forget cX3_forget 1 none ∈ GT := GT_mem 429 rfl (by decide +kernel)
theorem wd_4d13bcc5 : Cond.selects RX7 yX7_mark yX7_mark ∈ GT := GT_mem 554 (by decide +kernel) (by decide +kernel)
theorem wd_4d39cb1a : Cond.instanceMethod yX5_dropEldest ∈ GT := GT_mem 562 (by decide +kernel) (by decide +kernel)
set_option maxRecDepth 20000 in
theorem wd_4db9c39b : Cond.code yX8_count cX8_count 4 (some .int) ∈ GT := GT_mem 1032 rfl (by decide +kernel)
theorem wd_4e16621c : Cond.initialized "java/lang/System" ∈ GT := GT_mem 48 (by decide +kernel) (by decide +kernel)
set_option maxRecDepth 20000 in
theorem wd_4e4dd533 : Cond.code yX8_put cX8_put 2 none ∈ GT := GT_mem 914 rfl (by decide +kernel)
set_option maxRecDepth 20000 in
theorem wd_4e52de8f : Cond.code yX2_addFrom cX2_addFrom 5 none ∈ GT := GT_mem 531 rfl (by decide +kernel)
theorem wd_4e802a9f : Cond.instanceMethod yX8_cut ∈ GT := GT_mem 1017 (by decide +kernel) (by decide +kernel)
theorem wd_4e8503b9 : Cond.selects RX0 yX0_setByte yX0_setByte ∈ GT := GT_mem 374 (by decide +kernel) (by decide +kernel)
set_option maxRecDepth 20000 in
theorem wd_4ef58eff : Cond.code yX8_readMemory cX8_readMemory 5 none ∈ GT := GT_mem 975 rfl (by decide +kernel)
theorem wd_4f086646 : Cond.fieldLink RX3 12 RX3 "machine" "LGlulxSaves$Machine;" ∈ GT := GT_mem 207 (by decide +kernel) (by decide +kernel)
set_option maxRecDepth 20000 in
theorem wd_4f2366be : Cond.code yX7_isByte cX7_isByte 1 (some .boolean) ∈ GT := GT_mem 295 rfl (by decide +kernel)
set_option maxRecDepth 20000 in
theorem wd_4f5457af : Cond.code yX2_init cX2_init 1 none ∈ GT := GT_mem 110 rfl (by decide +kernel)
theorem wd_4fe942ff : Cond.methodLink RX8 243 yX8_isGuarded ∈ GT := GT_mem 984 (by decide +kernel) (by decide +kernel)
theorem wd_50d62667 : Cond.methodLink RX8 218 yX8_readBlocks ∈ GT := GT_mem 980 (by decide +kernel) (by decide +kernel)
theorem wd_50e3a115 : Cond.selects RX0 yX0_add yX0_add ∈ GT := GT_mem 370 (by decide +kernel) (by decide +kernel)
theorem wd_51108368 : Cond.methodLink RL 114 yX8_count ∈ GT := GT_mem 1029 (by decide +kernel) (by decide +kernel)
theorem wd_512bab3c : Cond.instanceMethod yX8_readHead ∈ GT := GT_mem 970 (by decide +kernel) (by decide +kernel)
theorem wd_512e29a4 : Cond.instanceMethod yX5_takeLatest ∈ GT := GT_mem 570 (by decide +kernel) (by decide +kernel)
theorem wd_5130bb88 : Cond.methodLink RX7 1 objectInit ∈ GT := GT_mem 61 (by decide +kernel) (by decide +kernel)
theorem wd_515edaa5 : Cond.instanceMethod yX8_free ∈ GT := GT_mem 894 (by decide +kernel) (by decide +kernel)
set_option maxRecDepth 20000 in
theorem wd_518229bb : Cond.code yX6_writeFile cX6_writeFile 4 none ∈ GT := GT_mem 362 rfl (by decide +kernel)
theorem wd_51ef553b : Cond.selects RX1 yX1_changeSize yX1_changeSize ∈ GT := GT_mem 310 (by decide +kernel) (by decide +kernel)
theorem wd_521e2947 : Cond.methodLink RX3 115 yX3_readInside ∈ GT := GT_mem 496 (by decide +kernel) (by decide +kernel)
set_option maxRecDepth 20000 in
theorem wd_5231f1b6 : Cond.code yX1_become cX1_become 7 none ∈ GT := GT_mem 541 rfl (by decide +kernel)
theorem wd_52b4b4cc : Cond.fieldLink RX8 122 RX8 "stackLong" "I" ∈ GT := GT_mem 722 (by decide +kernel) (by decide +kernel)
theorem wd_52badff5 : Cond.methodLink RL 40 yX8_resize ∈ GT := GT_mem 871 (by decide +kernel) (by decide +kernel)
theorem wd_5379fcbf : Cond.instantiable RX7 12 ∈ GT := GT_mem 57 (by decide +kernel) (by decide +kernel)
theorem wd_538f31c5 : Cond.fieldLink RX7 77 RX1 "size" "I" ∈ GT := GT_mem 75 (by decide +kernel) (by decide +kernel)
set_option maxRecDepth 20000 in
theorem wd_540282b3 : Cond.code yX8_putFour cX8_putFour 2 none ∈ GT := GT_mem 910 rfl (by decide +kernel)
theorem wd_545a78f7 : Cond.fieldLink RX4 23 RX4 "end" "I" ∈ GT := GT_mem 181 (by decide +kernel) (by decide +kernel)
theorem wd_54867c0d : Cond.fieldLink RX3 29 RX3 "place" "I" ∈ GT := GT_mem 213 (by decide +kernel) (by decide +kernel)
set_option maxRecDepth 20000 in
theorem wd_54e841b3 : Cond.code yX3_wasSeen cX3_wasSeen 2 (some .boolean) ∈ GT := GT_mem 477 rfl (by decide +kernel)
theorem wd_5559bd74 : Cond.static yX6_closeChunk ∈ GT := GT_mem 386 (by decide +kernel) (by decide +kernel)
theorem wd_55d3bb0d : Cond.constant RX3 123 (1129145709) ∈ GT := GT_mem 478 (by decide +kernel) (by decide +kernel)
theorem wd_562bd9c6 : Cond.fieldLink RX7 208 RX2 "count" "I" ∈ GT := GT_mem 115 (by decide +kernel) (by decide +kernel)
theorem wd_56319c3c : Cond.methodLink RX7 135 yX1_blockAt ∈ GT := GT_mem 340 (by decide +kernel) (by decide +kernel)
theorem wd_56cb65e1 : Cond.instanceMethod yX7_more ∈ GT := GT_mem 593 (by decide +kernel) (by decide +kernel)
theorem wd_56df588e : Cond.methodLink RL 118 yX8_hash ∈ GT := GT_mem 1033 (by decide +kernel) (by decide +kernel)
theorem wd_5707ffe6 : Cond.selects RX5 yX5_keep yX5_keep ∈ GT := GT_mem 558 (by decide +kernel) (by decide +kernel)
theorem wd_572d2f85 : Cond.methodLink RL 115 yX7_hash ∈ GT := GT_mem 610 (by decide +kernel) (by decide +kernel)
theorem wd_57aa4b16 : Cond.instanceMethod yX8_undo ∈ GT := GT_mem 1001 (by decide +kernel) (by decide +kernel)
set_option maxRecDepth 20000 in
theorem wd_57cc4b0f : Cond.code yX0_become cX0_become 2 none ∈ GT := GT_mem 416 rfl (by decide +kernel)
theorem wd_58245999 : Cond.methodLink RX8 1 objectInit ∈ GT := GT_mem 704 (by decide +kernel) (by decide +kernel)
theorem wd_586e0a2a : Cond.instanceMethod yX3_readFront ∈ GT := GT_mem 433 (by decide +kernel) (by decide +kernel)
theorem wd_587bdb86 : Cond.methodLink RL 55 yX8_block ∈ GT := GT_mem 888 (by decide +kernel) (by decide +kernel)
theorem wd_58878e03 : Cond.static yX6_writeHead ∈ GT := GT_mem 378 (by decide +kernel) (by decide +kernel)
set_option maxRecDepth 20000 in
theorem wd_58a22276 : Cond.code yX0_setFour cX0_setFour 4 none ∈ GT := GT_mem 391 rfl (by decide +kernel)
set_option maxRecDepth 20000 in
theorem wd_599be682 : Cond.code yX0_init cX0_init 1 none ∈ GT := GT_mem 135 rfl (by decide +kernel)
theorem wd_59cb3714 : Cond.fieldLink RX3 162 RX4 "ram" "I" ∈ GT := GT_mem 180 (by decide +kernel) (by decide +kernel)
theorem wd_5a010bf1 : Cond.fieldLink RX7 70 RX7 "reader" "LGlulxSaves$Reader;" ∈ GT := GT_mem 255 (by decide +kernel) (by decide +kernel)
theorem wd_5ac99f8f : Cond.selects RX7 yX7_seal yX7_seal ∈ GT := GT_mem 599 (by decide +kernel) (by decide +kernel)
theorem wd_5c716bce : Cond.selects RX8 yX8_fault yX8_fault ∈ GT := GT_mem 990 (by decide +kernel) (by decide +kernel)
theorem wd_5d3c0b63 : Cond.methodLink RL 56 yX7_free ∈ GT := GT_mem 336 (by decide +kernel) (by decide +kernel)
theorem wd_5d5a2bc4 : Cond.classLink RX7 7 RX1 ∈ GT := GT_mem 64 (by decide +kernel) (by decide +kernel)
theorem wd_5d9fa258 : Cond.constant RX6 16 (1229347411) ∈ GT := GT_mem 376 (by decide +kernel) (by decide +kernel)
set_option maxRecDepth 20000 in
theorem wd_5e05de28 : Cond.code yX4_inSteps cX4_inSteps 4 (some .boolean) ∈ GT := GT_mem 176 rfl (by decide +kernel)
theorem wd_5e9f0b84 : Cond.selects RX8 yX8_cut yX8_cut ∈ GT := GT_mem 1018 (by decide +kernel) (by decide +kernel)
set_option maxRecDepth 20000 in
theorem wd_5f388273 : Cond.code yX8_close cX8_close 3 none ∈ GT := GT_mem 924 rfl (by decide +kernel)
theorem wd_5f5457fd : Cond.methodLink RX3 187 yX1_addBlock ∈ GT := GT_mem 527 (by decide +kernel) (by decide +kernel)
set_option maxRecDepth 20000 in
theorem wd_5f5bb3ce : Cond.code yX7_count cX7_count 2 (some .int) ∈ GT := GT_mem 605 rfl (by decide +kernel)
theorem wd_61caa283 : Cond.instanceMethod yX7_init ∈ GT := GT_mem 59 (by decide +kernel) (by decide +kernel)
theorem wd_61daff9b : Cond.fieldLink RX8 67 RX8 "newLengths" "[I" ∈ GT := GT_mem 755 (by decide +kernel) (by decide +kernel)
theorem wd_621287cb : Cond.methodLink RX7 215 yX1_become ∈ GT := GT_mem 538 (by decide +kernel) (by decide +kernel)
set_option maxRecDepth 20000 in
theorem wd_64249762 : Cond.code yX8_push cX8_push 2 (some .int) ∈ GT := GT_mem 883 rfl (by decide +kernel)
theorem wd_642ba67c : Cond.instanceMethod yX8_save ∈ GT := GT_mem 903 (by decide +kernel) (by decide +kernel)
theorem wd_643a6993 : Cond.instantiable RX1 7 ∈ GT := GT_mem 65 (by decide +kernel) (by decide +kernel)
theorem wd_646b3b88 : Cond.methodLink RX8 153 yX8_close ∈ GT := GT_mem 921 (by decide +kernel) (by decide +kernel)
theorem wd_649de331 : Cond.selects RX1 yX1_become yX1_become ∈ GT := GT_mem 540 (by decide +kernel) (by decide +kernel)
set_option maxRecDepth 20000 in
theorem wd_64a12530 : Cond.code yX8_restart cX8_restart 2 (some .int) ∈ GT := GT_mem 1007 rfl (by decide +kernel)
theorem wd_64e345cd : Cond.fieldLink RX8 135 RX8 "made" "I" ∈ GT := GT_mem 746 (by decide +kernel) (by decide +kernel)
theorem wd_651f4ea1 : Cond.methodLink RX7 98 yX1_changeSize ∈ GT := GT_mem 308 (by decide +kernel) (by decide +kernel)
theorem wd_65637c64 : Cond.selects RX7 yX7_count yX7_count ∈ GT := GT_mem 604 (by decide +kernel) (by decide +kernel)
theorem wd_663e829a : Cond.selects RX7 yX7_restart yX7_restart ∈ GT := GT_mem 575 (by decide +kernel) (by decide +kernel)
theorem wd_6692ab2b : Cond.fieldLink RX3 48 RX3 "story" "LGlulxSaves$Story;" ∈ GT := GT_mem 206 (by decide +kernel) (by decide +kernel)
set_option maxRecDepth 20000 in
theorem wd_66e87449 : Cond.code yX8_more cX8_more 5 (some .int) ∈ GT := GT_mem 1023 rfl (by decide +kernel)
theorem wd_67232691 : Cond.selects RX8 yX8_restart yX8_restart ∈ GT := GT_mem 1006 (by decide +kernel) (by decide +kernel)
set_option maxRecDepth 20000 in
theorem wd_672c8be9 : Cond.code yX8_poke cX8_poke 4 (some .int) ∈ GT := GT_mem 869 rfl (by decide +kernel)
set_option maxRecDepth 20000 in
theorem wd_679af842 : Cond.code objectInit ⟨#[0xb1]⟩ 1 none ∈ GT := GT_mem 63 rfl (by decide +kernel)
set_option maxRecDepth 20000 in
theorem wd_67b6c459 : Cond.code yX8_save cX8_save 4 (some .int) ∈ GT := GT_mem 905 rfl (by decide +kernel)
theorem wd_685d691c : Cond.selects RX7 yX7_bringBack yX7_bringBack ∈ GT := GT_mem 17 (by decide +kernel) (by decide +kernel)
theorem wd_69292c71 : Cond.instanceMethod yX7_mark ∈ GT := GT_mem 553 (by decide +kernel) (by decide +kernel)
set_option maxRecDepth 20000 in
theorem wd_694c974a : Cond.code yX1_takeInt cX1_takeInt 1 (some .int) ∈ GT := GT_mem 698 rfl (by decide +kernel)
theorem wd_6a67b9d3 : Cond.methodLink RX3 102 yX0_fourAt ∈ GT := GT_mem 461 (by decide +kernel) (by decide +kernel)
theorem wd_6aa62c5a : Cond.fieldLink RX8 101 RX8 "m" "I" ∈ GT := GT_mem 720 (by decide +kernel) (by decide +kernel)
theorem wd_6bec01bc : Cond.selects RX8 yX8_put yX8_put ∈ GT := GT_mem 23 (by decide +kernel) (by decide +kernel)
theorem wd_6c817337 : Cond.instanceMethod yX8_mark ∈ GT := GT_mem 993 (by decide +kernel) (by decide +kernel)
theorem wd_6ca7c8ca : Cond.methodLink RX8 150 yX8_chunk ∈ GT := GT_mem 917 (by decide +kernel) (by decide +kernel)
theorem wd_6d22e650 : Cond.fieldLink RX8 170 RX8 "now" "I" ∈ GT := GT_mem 761 (by decide +kernel) (by decide +kernel)
set_option maxRecDepth 20000 in
theorem wd_6d6d2127 : Cond.code Lib.Math.max.name Lib.Math.max.code 2 (some .int) ∈ GT := GT_mem 525 rfl (by decide +kernel)
theorem wd_6d740bfe : Cond.instanceMethod yX7_bringBack ∈ GT := GT_mem 536 (by decide +kernel) (by decide +kernel)
theorem wd_6d82a2ff : Cond.methodLink RX7 67 yX3_init ∈ GT := GT_mem 198 (by decide +kernel) (by decide +kernel)
theorem wd_6e716dcc : Cond.methodLink RL 27 yX7_peek ∈ GT := GT_mem 285 (by decide +kernel) (by decide +kernel)
theorem wd_6e7d7095 : Cond.instanceMethod yX0_init ∈ GT := GT_mem 134 (by decide +kernel) (by decide +kernel)
theorem wd_6f6f4bcb : Cond.selects RX7 yX7_resize yX7_resize ∈ GT := GT_mem 298 (by decide +kernel) (by decide +kernel)
theorem wd_6f7dbf09 : Cond.instanceMethod yX3_read ∈ GT := GT_mem 423 (by decide +kernel) (by decide +kernel)
theorem wd_6fb5df7a : Cond.static yX8_in ∈ GT := GT_mem 708 (by decide +kernel) (by decide +kernel)
theorem wd_70519895 : Cond.methodLink RL 102 yX7_more ∈ GT := GT_mem 592 (by decide +kernel) (by decide +kernel)
set_option maxRecDepth 20000 in
theorem wd_711ec561 : Cond.code yX3_readInside cX3_readInside 6 (some .boolean) ∈ GT := GT_mem 499 rfl (by decide +kernel)
theorem wd_72f9d326 : Cond.methodLink RL 26 yX8_init ∈ GT := GT_mem 701 (by decide +kernel) (by decide +kernel)
theorem wd_733e1c0f : Cond.instanceMethod yX2_addFrom ∈ GT := GT_mem 529 (by decide +kernel) (by decide +kernel)
theorem wd_743f32ce : Cond.fieldLink RX8 176 RX8 "at" "I" ∈ GT := GT_mem 748 (by decide +kernel) (by decide +kernel)
set_option maxRecDepth 20000 in
theorem wd_744e4c62 : Cond.code yX0_setByte cX0_setByte 3 none ∈ GT := GT_mem 375 rfl (by decide +kernel)
theorem wd_74e1702f : Cond.methodLink RL 75 yX8_fault ∈ GT := GT_mem 988 (by decide +kernel) (by decide +kernel)
theorem wd_75170aaf : Cond.instanceMethod yX7_pop ∈ GT := GT_mem 626 (by decide +kernel) (by decide +kernel)
theorem wd_75545394 : Cond.constant RX3 125 (1296133228) ∈ GT := GT_mem 480 (by decide +kernel) (by decide +kernel)
set_option maxRecDepth 20000 in
theorem wd_75711596 : Cond.code yX8_protect cX8_protect 3 (some .int) ∈ GT := GT_mem 900 rfl (by decide +kernel)
theorem wd_75a22239 : Cond.selects RX0 yX0_setFour yX0_setFour ∈ GT := GT_mem 390 (by decide +kernel) (by decide +kernel)
theorem wd_75c96664 : Cond.instanceMethod yX5_init ∈ GT := GT_mem 154 (by decide +kernel) (by decide +kernel)
theorem wd_761ff0ff : Cond.methodLink RX4 15 yX4_inSteps ∈ GT := GT_mem 174 (by decide +kernel) (by decide +kernel)
set_option maxRecDepth 20000 in
theorem wd_763d4ebe : Cond.code yX3_isKnown cX3_isKnown 1 (some .boolean) ∈ GT := GT_mem 490 rfl (by decide +kernel)
theorem wd_7648ca75 : Cond.selects RX3 yX3_isWhole yX3_isWhole ∈ GT := GT_mem 10 (by decide +kernel) (by decide +kernel)
theorem wd_76b0ad6d : Cond.selects RX8 yX8_load yX8_load ∈ GT := GT_mem 938 (by decide +kernel) (by decide +kernel)
theorem wd_76e321ca : Cond.instanceMethod yX7_peek ∈ GT := GT_mem 286 (by decide +kernel) (by decide +kernel)
set_option maxRecDepth 20000 in
theorem wd_770f9312 : Cond.code yX8_alter cX8_alter 3 (some .int) ∈ GT := GT_mem 1015 rfl (by decide +kernel)
set_option maxRecDepth 20000 in
theorem wd_7767b6c8 : Cond.code yX0_clear cX0_clear 1 none ∈ GT := GT_mem 359 rfl (by decide +kernel)
theorem wd_779689bb : Cond.instantiable RX2 4 ∈ GT := GT_mem 107 (by decide +kernel) (by decide +kernel)
theorem wd_78089881 : Cond.fieldLink RX1 9 RX1 "memory" "[I" ∈ GT := GT_mem 70 (by decide +kernel) (by decide +kernel)
theorem wd_7819959c : Cond.constant RX8 158 (1229351012) ∈ GT := GT_mem 916 (by decide +kernel) (by decide +kernel)
theorem wd_79253b89 : Cond.methodLink RX2 3 objectInit ∈ GT := GT_mem 111 (by decide +kernel) (by decide +kernel)
theorem wd_795b48e7 : Cond.methodLink RX2 25 arraycopyName ∈ GT := GT_mem 547 (by decide +kernel) (by decide +kernel)
set_option maxRecDepth 20000 in
theorem wd_799fd837 : Cond.code yX7_free cX7_free 3 (some .int) ∈ GT := GT_mem 339 rfl (by decide +kernel)
theorem wd_79a5829f : Cond.fieldLink RX7 16 RX7 "fresh" "LGlulxSaves$Machine;" ∈ GT := GT_mem 250 (by decide +kernel) (by decide +kernel)
theorem wd_79af3f40 : Cond.initialized RX2 ∈ GT := GT_mem 43 (by decide +kernel) (by decide +kernel)
theorem wd_79bf46f5 : Cond.instanceMethod yX8_thrown ∈ GT := GT_mem 859 (by decide +kernel) (by decide +kernel)
theorem wd_79cf8b8f : Cond.selects RX0 yX0_holds yX0_holds ∈ GT := GT_mem 446 (by decide +kernel) (by decide +kernel)
theorem wd_7b49e2f2 : Cond.fieldLink RX7 164 RX3 "fault" "I" ∈ GT := GT_mem 212 (by decide +kernel) (by decide +kernel)
theorem wd_7b8e6928 : Cond.instanceMethod yX0_setByte ∈ GT := GT_mem 373 (by decide +kernel) (by decide +kernel)
theorem wd_7baeead1 : Cond.selects RX8 yX8_isSize yX8_isSize ∈ GT := GT_mem 21 (by decide +kernel) (by decide +kernel)
theorem wd_7c4e94b5 : Cond.methodLink RL 7 yX7_pop ∈ GT := GT_mem 625 (by decide +kernel) (by decide +kernel)
theorem wd_7cc4d8be : Cond.instanceMethod yX3_lengthMayBe ∈ GT := GT_mem 483 (by decide +kernel) (by decide +kernel)
theorem wd_7d25d4fd : Cond.initialized RX0 ∈ GT := GT_mem 44 (by decide +kernel) (by decide +kernel)
theorem wd_7d565621 : Cond.fieldLink RX6 100 RX2 "count" "I" ∈ GT := GT_mem 114 (by decide +kernel) (by decide +kernel)
theorem wd_7d80349b : Cond.instanceMethod yX8_hash ∈ GT := GT_mem 1034 (by decide +kernel) (by decide +kernel)
set_option maxRecDepth 20000 in
theorem wd_7e0acdae : Cond.code yX1_init cX1_init 1 none ∈ GT := GT_mem 68 rfl (by decide +kernel)
theorem wd_7f6c589f : Cond.methodLink RX8 230 yX8_readAll ∈ GT := GT_mem 940 (by decide +kernel) (by decide +kernel)
theorem wd_7f910417 : Cond.fieldLink RX6 90 RX1 "stack" "[I" ∈ GT := GT_mem 79 (by decide +kernel) (by decide +kernel)
theorem wd_7f910987 : Cond.fieldLink RX7 61 RX7 "story" "LGlulxSaves$Story;" ∈ GT := GT_mem 248 (by decide +kernel) (by decide +kernel)
theorem wd_7f94a9fb : Cond.instanceMethod yX8_alter ∈ GT := GT_mem 1013 (by decide +kernel) (by decide +kernel)
theorem wd_7f9c7619 : Cond.methodLink RX3 168 yX1_addInt ∈ GT := GT_mem 517 (by decide +kernel) (by decide +kernel)
theorem wd_7fccbdbd : Cond.selects RX8 yX8_putAt yX8_putAt ∈ GT := GT_mem 26 (by decide +kernel) (by decide +kernel)
theorem wd_802c4bc1 : Cond.constantLong RX8 189 (4) ∈ GT := GT_mem 956 (by decide +kernel) (by decide +kernel)
theorem wd_8033c055 : Cond.selects RX8 yX8_poke yX8_poke ∈ GT := GT_mem 868 (by decide +kernel) (by decide +kernel)
set_option maxRecDepth 20000 in
theorem wd_8035d45d : Cond.code yL_cell cL_cell 2 (some .int) ∈ GT := GT_mem 620 rfl (by decide +kernel)
set_option maxRecDepth 20000 in
theorem wd_8090583c : Cond.code yX3_isWhole cX3_isWhole 6 (some .boolean) ∈ GT := GT_mem 495 rfl (by decide +kernel)
set_option maxRecDepth 20000 in
theorem wd_80953800 : Cond.code yX0_byteAt cX0_byteAt 2 (some .int) ∈ GT := GT_mem 455 rfl (by decide +kernel)
theorem wd_809d446a : Cond.instanceMethod yX8_has ∈ GT := GT_mem 950 (by decide +kernel) (by decide +kernel)
theorem wd_80caaf0b : Cond.instanceMethod yX7_undo ∈ GT := GT_mem 566 (by decide +kernel) (by decide +kernel)
theorem wd_80d79248 : Cond.selects RX3 yX3_readWholeLength yX3_readWholeLength ∈ GT := GT_mem 5 (by decide +kernel) (by decide +kernel)
theorem wd_80e3c982 : Cond.methodLink RX3 145 yX3_readBlocks ∈ GT := GT_mem 518 (by decide +kernel) (by decide +kernel)
theorem wd_80ebbd60 : Cond.selects RX8 yX8_undo yX8_undo ∈ GT := GT_mem 1002 (by decide +kernel) (by decide +kernel)
theorem wd_814e2600 : Cond.fieldLink RX7 121 RX4 "end" "I" ∈ GT := GT_mem 183 (by decide +kernel) (by decide +kernel)
set_option maxRecDepth 20000 in
theorem wd_816e9315 : Cond.code yX7_restart cX7_restart 1 (some .int) ∈ GT := GT_mem 576 rfl (by decide +kernel)
set_option maxRecDepth 20000 in
theorem wd_81dd359d : Cond.code Lib.Math.min.name Lib.Math.min.code 2 (some .int) ∈ GT := GT_mem 401 rfl (by decide +kernel)
theorem wd_81f46b96 : Cond.static yX6_writeOthers ∈ GT := GT_mem 411 (by decide +kernel) (by decide +kernel)
theorem wd_81fabe25 : Cond.static Lib.Math.max.name ∈ GT := GT_mem 524 (by decide +kernel) (by decide +kernel)
theorem wd_825d31d2 : Cond.instanceMethod yX3_wasSeen ∈ GT := GT_mem 476 (by decide +kernel) (by decide +kernel)
theorem wd_82724fa2 : Cond.fieldLink RX1 31 RX1 "blocks" "I" ∈ GT := GT_mem 87 (by decide +kernel) (by decide +kernel)
theorem wd_828038b1 : Cond.methodLink RX7 209 yX2_bytesInAll ∈ GT := GT_mem 606 (by decide +kernel) (by decide +kernel)
theorem wd_82c1dea0 : Cond.constantLong RX8 85 (96) ∈ GT := GT_mem 706 (by decide +kernel) (by decide +kernel)
set_option maxRecDepth 20000 in
theorem wd_82eee424 : Cond.code yX3_init cX3_init 2 none ∈ GT := GT_mem 200 rfl (by decide +kernel)
theorem wd_830c0a02 : Cond.instanceMethod yX8_init ∈ GT := GT_mem 702 (by decide +kernel) (by decide +kernel)
theorem wd_83412ee4 : Cond.selects RX0 yX0_addFour yX0_addFour ∈ GT := GT_mem 366 (by decide +kernel) (by decide +kernel)
theorem wd_83625914 : Cond.instanceMethod yX7_resize ∈ GT := GT_mem 297 (by decide +kernel) (by decide +kernel)
theorem wd_83c11319 : Cond.selects RX8 yX8_resize yX8_resize ∈ GT := GT_mem 873 (by decide +kernel) (by decide +kernel)
set_option maxRecDepth 20000 in
theorem wd_84362f2f : Cond.code yX6_closeChunk cX6_closeChunk 3 none ∈ GT := GT_mem 387 rfl (by decide +kernel)
theorem wd_84576693 : Cond.instanceMethod yX1_begin ∈ GT := GT_mem 242 (by decide +kernel) (by decide +kernel)
set_option maxRecDepth 20000 in
theorem wd_8460ae20 : Cond.code yX0_fourAt cX0_fourAt 2 (some .int) ∈ GT := GT_mem 464 rfl (by decide +kernel)
set_option maxRecDepth 20000 in
theorem wd_84a97f12 : Cond.code yX8_fourAt cX8_fourAt 2 (some .int) ∈ GT := GT_mem 960 rfl (by decide +kernel)
theorem wd_85495c7c : Cond.instanceMethod yX0_clear ∈ GT := GT_mem 357 (by decide +kernel) (by decide +kernel)
theorem wd_85f1e6e8 : Cond.selects RX3 yX3_lengthMayBe yX3_lengthMayBe ∈ GT := GT_mem 9 (by decide +kernel) (by decide +kernel)
set_option maxRecDepth 20000 in
theorem wd_86626b7d : Cond.code yX7_fault cX7_fault 2 (some .int) ∈ GT := GT_mem 551 rfl (by decide +kernel)
theorem wd_869d4337 : Cond.selects RX8 yX8_close yX8_close ∈ GT := GT_mem 25 (by decide +kernel) (by decide +kernel)
theorem wd_87b4a8fc : Cond.methodLink RL 106 yX8_more ∈ GT := GT_mem 1020 (by decide +kernel) (by decide +kernel)
theorem wd_87fddd70 : Cond.constantLong RX8 96 (256) ∈ GT := GT_mem 711 (by decide +kernel) (by decide +kernel)
theorem wd_89165b4d : Cond.initialized "java/lang/IllegalStateException" ∈ GT := GT_mem 53 (by decide +kernel) (by decide +kernel)
theorem wd_8921c3ea : Cond.methodLink RX7 202 yX0_add ∈ GT := GT_mem 596 (by decide +kernel) (by decide +kernel)
theorem wd_897305f2 : Cond.methodLink RX3 139 yX3_readMemory ∈ GT := GT_mem 509 (by decide +kernel) (by decide +kernel)
set_option maxRecDepth 20000 in
theorem wd_897844e5 : Cond.code yX8_readChunk cX8_readChunk 7 none ∈ GT := GT_mem 964 rfl (by decide +kernel)
theorem wd_89d29514 : Cond.selects RX7 yX7_block yX7_block ∈ GT := GT_mem 322 (by decide +kernel) (by decide +kernel)
theorem wd_89f3734e : Cond.constantLong RX8 204 (68) ∈ GT := GT_mem 967 (by decide +kernel) (by decide +kernel)
set_option maxRecDepth 20000 in
theorem wd_8a7b633d : Cond.code yX8_original cX8_original 2 (some .int) ∈ GT := GT_mem 715 rfl (by decide +kernel)
theorem wd_8b178ab1 : Cond.methodLink RX7 102 yX1_addInt ∈ GT := GT_mem 316 (by decide +kernel) (by decide +kernel)
set_option maxRecDepth 20000 in
theorem wd_8b6c5d3f : Cond.code yX8_chunk cX8_chunk 2 (some .int) ∈ GT := GT_mem 920 rfl (by decide +kernel)
set_option maxRecDepth 20000 in
theorem wd_8d26478a : Cond.code yX0_holds cX0_holds 4 (some .boolean) ∈ GT := GT_mem 447 rfl (by decide +kernel)
set_option maxRecDepth 20000 in
theorem wd_8dc5e442 : Cond.code yX8_move cX8_move 4 none ∈ GT := GT_mem 999 rfl (by decide +kernel)
theorem wd_8e25c8bd : Cond.fieldLink RX8 22 RX8 "file" "[I" ∈ GT := GT_mem 730 (by decide +kernel) (by decide +kernel)
theorem wd_8e49db6b : Cond.fieldLink RX6 74 RX1 "memory" "[I" ∈ GT := GT_mem 72 (by decide +kernel) (by decide +kernel)
theorem wd_8e5462f3 : Cond.classLink RX7 56 RX4 ∈ GT := GT_mem 168 (by decide +kernel) (by decide +kernel)
theorem wd_8e6156d4 : Cond.static yX6_writeStack ∈ GT := GT_mem 403 (by decide +kernel) (by decide +kernel)
theorem wd_8ed16f45 : Cond.methodLink RX7 94 yX1_blocksEnd ∈ GT := GT_mem 304 (by decide +kernel) (by decide +kernel)
theorem wd_8ee38bcf : Cond.selects RX3 yX3_fail yX3_fail ∈ GT := GT_mem 4 (by decide +kernel) (by decide +kernel)
theorem wd_8f40b1bc : Cond.classLink RX7 108 "java/lang/IllegalStateException" ∈ GT := GT_mem 629 (by decide +kernel) (by decide +kernel)
theorem wd_8f4fc74c : Cond.instanceMethod yX7_count ∈ GT := GT_mem 603 (by decide +kernel) (by decide +kernel)
theorem wd_9024a8b2 : Cond.instanceMethod yX2_init ∈ GT := GT_mem 109 (by decide +kernel) (by decide +kernel)
theorem wd_902cd04b : Cond.fieldLink RX7 29 RX7 "file" "LGlulxSaves$Bytes;" ∈ GT := GT_mem 252 (by decide +kernel) (by decide +kernel)
set_option maxRecDepth 20000 in
theorem wd_90987b3e : Cond.code yX8_mark cX8_mark 3 (some .int) ∈ GT := GT_mem 995 rfl (by decide +kernel)
set_option maxRecDepth 20000 in
theorem wd_90f8c2b1 : Cond.code yX1_begin cX1_begin 2 none ∈ GT := GT_mem 244 rfl (by decide +kernel)
theorem wd_91abf336 : Cond.constant RX3 97 (1229347411) ∈ GT := GT_mem 465 (by decide +kernel) (by decide +kernel)
theorem wd_91b8e0c4 : Cond.fieldLink RX7 80 RX1 "memory" "[I" ∈ GT := GT_mem 71 (by decide +kernel) (by decide +kernel)
theorem wd_9315dff3 : Cond.instanceMethod yX8_readMemory ∈ GT := GT_mem 974 (by decide +kernel) (by decide +kernel)
theorem wd_937db9f1 : Cond.methodLink RX7 139 yX1_removeBlock ∈ GT := GT_mem 344 (by decide +kernel) (by decide +kernel)
theorem wd_938b98ad : Cond.fieldLink RX3 171 RX4 "end" "I" ∈ GT := GT_mem 184 (by decide +kernel) (by decide +kernel)
theorem wd_93b72bd8 : Cond.selects RX8 yX8_readMemory yX8_readMemory ∈ GT := GT_mem 35 (by decide +kernel) (by decide +kernel)
theorem wd_944cf9c3 : Cond.initialized RX1 ∈ GT := GT_mem 42 (by decide +kernel) (by decide +kernel)
theorem wd_94c5f23a : Cond.selects RX5 yX5_takeLatest yX5_takeLatest ∈ GT := GT_mem 571 (by decide +kernel) (by decide +kernel)
set_option maxRecDepth 20000 in
theorem wd_95947439 : Cond.code yX8_readStack cX8_readStack 3 none ∈ GT := GT_mem 979 rfl (by decide +kernel)
theorem wd_95c7f734 : Cond.methodLink RX6 23 yX6_writeMemory ∈ GT := GT_mem 392 (by decide +kernel) (by decide +kernel)
set_option maxRecDepth 20000 in
theorem wd_97f223c6 : Cond.code yX6_writeBlocks cX6_writeBlocks 4 none ∈ GT := GT_mem 408 rfl (by decide +kernel)
theorem wd_98065b1c : Cond.methodLink RX7 38 yX5_init ∈ GT := GT_mem 153 (by decide +kernel) (by decide +kernel)
theorem wd_98767da5 : Cond.classLink RL 13 "java/lang/IllegalStateException" ∈ GT := GT_mem 624 (by decide +kernel) (by decide +kernel)
theorem wd_98c4a440 : Cond.methodLink RX7 118 yX7_isBlockLength ∈ GT := GT_mem 324 (by decide +kernel) (by decide +kernel)
theorem wd_99da01e2 : Cond.methodLink RX5 25 yX1_become ∈ GT := GT_mem 564 (by decide +kernel) (by decide +kernel)
theorem wd_9a19e5d3 : Cond.fieldLink RX8 37 RX8 "undoMemory" "[I" ∈ GT := GT_mem 740 (by decide +kernel) (by decide +kernel)
theorem wd_9a8c6cf4 : Cond.methodLink RL 44 yX8_push ∈ GT := GT_mem 880 (by decide +kernel) (by decide +kernel)
theorem wd_9ac9edd9 : Cond.constant RX8 149 (1129145709) ∈ GT := GT_mem 933 (by decide +kernel) (by decide +kernel)
theorem wd_9b9964c5 : Cond.methodLink RX3 3 objectInit ∈ GT := GT_mem 201 (by decide +kernel) (by decide +kernel)
theorem wd_9cce79c4 : Cond.selects RX7 yX7_peek yX7_peek ∈ GT := GT_mem 287 (by decide +kernel) (by decide +kernel)
theorem wd_9d1bae0c : Cond.fieldLink RX7 84 RX4 "ram" "I" ∈ GT := GT_mem 178 (by decide +kernel) (by decide +kernel)
theorem wd_9d46658a : Cond.methodLink RX6 10 yX0_addFour ∈ GT := GT_mem 364 (by decide +kernel) (by decide +kernel)
theorem wd_9d546d0b : Cond.initialized RX3 ∈ GT := GT_mem 47 (by decide +kernel) (by decide +kernel)
theorem wd_9d845384 : Cond.selects RX3 yX3_readBlocks yX3_readBlocks ∈ GT := GT_mem 16 (by decide +kernel) (by decide +kernel)
set_option maxRecDepth 20000 in
theorem wd_9dd0cdd4 : Cond.code yX2_bytesInAll cX2_bytesInAll 3 (some .int) ∈ GT := GT_mem 609 rfl (by decide +kernel)
theorem wd_9e693f12 : Cond.fieldLink RX6 108 RX2 "lengths" "[I" ∈ GT := GT_mem 119 (by decide +kernel) (by decide +kernel)
set_option maxRecDepth 20000 in
theorem wd_9e9ce50b : Cond.code yX8_letters cX8_letters 3 none ∈ GT := GT_mem 947 rfl (by decide +kernel)
theorem wd_9f405ff8 : Cond.fieldLink RX1 34 RX4 "original" "[I" ∈ GT := GT_mem 186 (by decide +kernel) (by decide +kernel)
theorem wd_a00a418b : Cond.constant RX6 9 (1179603533) ∈ GT := GT_mem 363 (by decide +kernel) (by decide +kernel)
theorem wd_a1c6d4a2 : Cond.selects RX3 yX3_forget yX3_forget ∈ GT := GT_mem 0 (by decide +kernel) (by decide +kernel)
theorem wd_a23b4ce5 : Cond.methodLink RL 52 yX7_block ∈ GT := GT_mem 320 (by decide +kernel) (by decide +kernel)
theorem wd_a274e702 : Cond.methodLink RL 32 yX7_poke ∈ GT := GT_mem 289 (by decide +kernel) (by decide +kernel)
theorem wd_a2a3eabe : Cond.fieldLink RX8 52 RX8 "undoLengths" "[I" ∈ GT := GT_mem 745 (by decide +kernel) (by decide +kernel)
theorem wd_a3115a9b : Cond.selects RX0 yX0_clear yX0_clear ∈ GT := GT_mem 358 (by decide +kernel) (by decide +kernel)
theorem wd_a345980f : Cond.instanceMethod yX3_init ∈ GT := GT_mem 199 (by decide +kernel) (by decide +kernel)
set_option maxRecDepth 20000 in
theorem wd_a3a09c4a : Cond.code yX8_readAll cX8_readAll 1 none ∈ GT := GT_mem 943 rfl (by decide +kernel)
theorem wd_a3e294a3 : Cond.fieldLink RX8 132 RX8 "guardLong" "I" ∈ GT := GT_mem 728 (by decide +kernel) (by decide +kernel)
theorem wd_a3e5e7a3 : Cond.fieldLink RX8 237 RX8 "fault" "I" ∈ GT := GT_mem 736 (by decide +kernel) (by decide +kernel)
theorem wd_a3ec198a : Cond.constantLong RX8 94 (128) ∈ GT := GT_mem 710 (by decide +kernel) (by decide +kernel)
theorem wd_a44d06cd : Cond.instanceMethod yX2_become ∈ GT := GT_mem 544 (by decide +kernel) (by decide +kernel)
theorem wd_a484c8ee : Cond.static yX7_isByte ∈ GT := GT_mem 294 (by decide +kernel) (by decide +kernel)
theorem wd_a4e2f63a : Cond.instanceMethod yX8_fourAt ∈ GT := GT_mem 959 (by decide +kernel) (by decide +kernel)
set_option maxRecDepth 20000 in
theorem wd_a51a5cc6 : Cond.code yX8_peek cX8_peek 2 (some .int) ∈ GT := GT_mem 865 rfl (by decide +kernel)
theorem wd_a51d9277 : Cond.methodLink RL 15 yL_cell ∈ GT := GT_mem 618 (by decide +kernel) (by decide +kernel)
theorem wd_a5bb4bbc : Cond.instanceMethod yX0_holds ∈ GT := GT_mem 445 (by decide +kernel) (by decide +kernel)
theorem wd_a5e410de : Cond.instanceMethod yX0_addFour ∈ GT := GT_mem 365 (by decide +kernel) (by decide +kernel)
theorem wd_a5e5b0e5 : Cond.instanceMethod yX1_takeInt ∈ GT := GT_mem 696 (by decide +kernel) (by decide +kernel)
set_option maxRecDepth 20000 in
theorem wd_a5f61bbc : Cond.code yX6_writeMemory cX6_writeMemory 7 none ∈ GT := GT_mem 394 rfl (by decide +kernel)
set_option maxRecDepth 20000 in
theorem wd_a6a55673 : Cond.code yX8_putAt cX8_putAt 4 none ∈ GT := GT_mem 928 rfl (by decide +kernel)
theorem wd_a6f33519 : Cond.fieldLink RX8 16 RX8 "starts" "[I" ∈ GT := GT_mem 725 (by decide +kernel) (by decide +kernel)
theorem wd_a72c0748 : Cond.methodLink RL 88 yX7_at ∈ GT := GT_mem 577 (by decide +kernel) (by decide +kernel)
theorem wd_a7abc9e1 : Cond.selects RX7 yX7_more yX7_more ∈ GT := GT_mem 594 (by decide +kernel) (by decide +kernel)
theorem wd_a8e7de72 : Cond.methodLink RX0 33 yX0_add ∈ GT := GT_mem 368 (by decide +kernel) (by decide +kernel)
theorem wd_a8fb5051 : Cond.instanceMethod yX0_add ∈ GT := GT_mem 369 (by decide +kernel) (by decide +kernel)
theorem wd_a909bd50 : Cond.instantiable RX0 3 ∈ GT := GT_mem 132 (by decide +kernel) (by decide +kernel)
theorem wd_a914564f : Cond.methodLink RX3 79 yX0_holds ∈ GT := GT_mem 444 (by decide +kernel) (by decide +kernel)
theorem wd_a99df1e5 : Cond.instanceMethod yX8_poke ∈ GT := GT_mem 867 (by decide +kernel) (by decide +kernel)
theorem wd_a9c17eac : Cond.classLink RL 8 RX7 ∈ GT := GT_mem 56 (by decide +kernel) (by decide +kernel)
theorem wd_aa0b8131 : Cond.instanceMethod yX5_keep ∈ GT := GT_mem 557 (by decide +kernel) (by decide +kernel)
theorem wd_aab14ce0 : Cond.selects RX4 yX4_allowsSize yX4_allowsSize ∈ GT := GT_mem 302 (by decide +kernel) (by decide +kernel)
theorem wd_ab600d73 : Cond.initialized RX7 ∈ GT := GT_mem 41 (by decide +kernel) (by decide +kernel)
theorem wd_abd38475 : Cond.methodLink RX3 55 yX3_readFront ∈ GT := GT_mem 431 (by decide +kernel) (by decide +kernel)
set_option maxRecDepth 20000 in
theorem wd_abd3d40f : Cond.code yX7_seal cX7_seal 2 (some .int) ∈ GT := GT_mem 600 rfl (by decide +kernel)
theorem wd_acdc2a31 : Cond.instanceMethod yX8_block ∈ GT := GT_mem 889 (by decide +kernel) (by decide +kernel)
theorem wd_ad36b3b8 : Cond.fieldLink RX6 105 RX2 "letters" "[I" ∈ GT := GT_mem 117 (by decide +kernel) (by decide +kernel)
theorem wd_ad4393e5 : Cond.selects RX3 yX3_mayCome yX3_mayCome ∈ GT := GT_mem 7 (by decide +kernel) (by decide +kernel)
theorem wd_ad4decb1 : Cond.constant RX3 132 (1229351012) ∈ GT := GT_mem 491 (by decide +kernel) (by decide +kernel)
theorem wd_ada92d24 : Cond.fieldLink RX5 17 RX5 "count" "I" ∈ GT := GT_mem 161 (by decide +kernel) (by decide +kernel)
theorem wd_adbb6bd5 : Cond.fieldLink RX8 7 RX8 "memory" "[I" ∈ GT := GT_mem 721 (by decide +kernel) (by decide +kernel)
theorem wd_adf326d1 : Cond.instanceMethod yX7_block ∈ GT := GT_mem 321 (by decide +kernel) (by decide +kernel)
set_option maxRecDepth 20000 in
theorem wd_adffa43e : Cond.code yX4_init cX4_init 5 none ∈ GT := GT_mem 172 rfl (by decide +kernel)
theorem wd_aec7ec9d : Cond.methodLink RX3 119 yX3_wasSeen ∈ GT := GT_mem 474 (by decide +kernel) (by decide +kernel)
theorem wd_aed757eb : Cond.methodLink RX7 155 yX0_become ∈ GT := GT_mem 413 (by decide +kernel) (by decide +kernel)
theorem wd_aed7a6b5 : Cond.static yX3_isKnown ∈ GT := GT_mem 489 (by decide +kernel) (by decide +kernel)
theorem wd_af721998 : Cond.classLink RX7 36 RX5 ∈ GT := GT_mem 151 (by decide +kernel) (by decide +kernel)
theorem wd_b0551994 : Cond.selects RX8 yX8_readAll yX8_readAll ∈ GT := GT_mem 28 (by decide +kernel) (by decide +kernel)
theorem wd_b0633fde : Cond.methodLink RL 99 yX8_cut ∈ GT := GT_mem 1016 (by decide +kernel) (by decide +kernel)
theorem wd_b0bee3fe : Cond.instantiable RX8 47 ∈ GT := GT_mem 700 (by decide +kernel) (by decide +kernel)
theorem wd_b1109c57 : Cond.fieldLink RX6 44 RX0 "size" "I" ∈ GT := GT_mem 140 (by decide +kernel) (by decide +kernel)
theorem wd_b16348dc : Cond.methodLink RX8 249 yX8_move ∈ GT := GT_mem 996 (by decide +kernel) (by decide +kernel)
theorem wd_b19731b6 : Cond.methodLink RX3 184 yX1_fits ∈ GT := GT_mem 526 (by decide +kernel) (by decide +kernel)
theorem wd_b1a3db99 : Cond.selects RX3 yX3_readChunk yX3_readChunk ∈ GT := GT_mem 6 (by decide +kernel) (by decide +kernel)
theorem wd_b1bd0297 : Cond.methodLink RL 31 yX8_peek ∈ GT := GT_mem 862 (by decide +kernel) (by decide +kernel)
theorem wd_b212d3c0 : Cond.selects RX3 yX3_reaches yX3_reaches ∈ GT := GT_mem 3 (by decide +kernel) (by decide +kernel)
theorem wd_b40cbaa9 : Cond.selects RX7 yX7_save yX7_save ∈ GT := GT_mem 354 (by decide +kernel) (by decide +kernel)
theorem wd_b455afa0 : Cond.fieldLink RX7 184 RX5 "count" "I" ∈ GT := GT_mem 162 (by decide +kernel) (by decide +kernel)
set_option maxRecDepth 20000 in
theorem wd_b463f557 : Cond.code yX7_hash cX7_hash 1 (some .int) ∈ GT := GT_mem 613 rfl (by decide +kernel)
theorem wd_b522e2a7 : Cond.instanceMethod yX8_peek ∈ GT := GT_mem 863 (by decide +kernel) (by decide +kernel)
theorem wd_b5888a50 : Cond.constantLong RX8 200 (3) ∈ GT := GT_mem 965 (by decide +kernel) (by decide +kernel)
theorem wd_b5894e48 : Cond.selects RX8 yX8_fail yX8_fail ∈ GT := GT_mem 31 (by decide +kernel) (by decide +kernel)
theorem wd_b606cdff : Cond.fieldLink RX3 45 RX3 "sawBlocks" "Z" ∈ GT := GT_mem 219 (by decide +kernel) (by decide +kernel)
theorem wd_b6c4e808 : Cond.fieldLink RX2 9 RX2 "count" "I" ∈ GT := GT_mem 112 (by decide +kernel) (by decide +kernel)
set_option maxRecDepth 20000 in
theorem wd_b758dee6 : Cond.code yX7_load cX7_load 1 (some .int) ∈ GT := GT_mem 421 rfl (by decide +kernel)
theorem wd_b7747b34 : Cond.instanceMethod yX1_fits ∈ GT := GT_mem 328 (by decide +kernel) (by decide +kernel)
set_option maxRecDepth 20000 in
theorem wd_b7dbb1f7 : Cond.code yX3_readLetters cX3_readLetters 5 (some .boolean) ∈ GT := GT_mem 439 rfl (by decide +kernel)
set_option maxRecDepth 20000 in
theorem wd_b7e4da08 : Cond.code yX7_cut cX7_cut 3 (some .int) ∈ GT := GT_mem 591 rfl (by decide +kernel)
theorem wd_b7e7f910 : Cond.instanceMethod yX8_readChunk ∈ GT := GT_mem 963 (by decide +kernel) (by decide +kernel)
theorem wd_b828c8c3 : Cond.methodLink RX5 22 yX5_dropEldest ∈ GT := GT_mem 560 (by decide +kernel) (by decide +kernel)
theorem wd_b858024e : Cond.methodLink RX3 178 Lib.Math.max.name ∈ GT := GT_mem 523 (by decide +kernel) (by decide +kernel)
theorem wd_b87f1d98 : Cond.methodLink RL 41 yX7_push ∈ GT := GT_mem 312 (by decide +kernel) (by decide +kernel)
set_option maxRecDepth 20000 in
theorem wd_b8ce7106 : Cond.code yX7_mark cX7_mark 1 (some .int) ∈ GT := GT_mem 555 rfl (by decide +kernel)
theorem wd_b8e2a615 : Cond.native arraycopyName ∈ GT := GT_mem 247 (by decide +kernel) (by decide +kernel)
theorem wd_b90d5f2c : Cond.methodLink RX7 178 yX2_become ∈ GT := GT_mem 543 (by decide +kernel) (by decide +kernel)
theorem wd_b929d194 : Cond.fieldLink RX7 47 RX7 "protectedBehind" "I" ∈ GT := GT_mem 257 (by decide +kernel) (by decide +kernel)
theorem wd_b9416320 : Cond.fieldLink RX6 109 RX2 "bytes" "[I" ∈ GT := GT_mem 121 (by decide +kernel) (by decide +kernel)
set_option maxRecDepth 20000 in
theorem wd_b969fe7a : Cond.code yX7_pop cX7_pop 1 (some .int) ∈ GT := GT_mem 628 rfl (by decide +kernel)
set_option maxRecDepth 20000 in
theorem wd_b9b4a4d4 : Cond.code yX7_block cX7_block 3 (some .int) ∈ GT := GT_mem 323 rfl (by decide +kernel)
theorem wd_b9febd37 : Cond.methodLink RX3 142 yX3_readStack ∈ GT := GT_mem 513 (by decide +kernel) (by decide +kernel)
theorem wd_ba0d5cda : Cond.selects RX8 yX8_chunk yX8_chunk ∈ GT := GT_mem 24 (by decide +kernel) (by decide +kernel)
theorem wd_ba30ed8e : Cond.fieldLink RX3 32 RX3 "next" "I" ∈ GT := GT_mem 215 (by decide +kernel) (by decide +kernel)
theorem wd_ba73381d : Cond.methodLink RX8 115 yX8_isSize ∈ GT := GT_mem 875 (by decide +kernel) (by decide +kernel)
theorem wd_ba75b294 : Cond.selects RX8 yX8_push yX8_push ∈ GT := GT_mem 882 (by decide +kernel) (by decide +kernel)
set_option maxRecDepth 20000 in
theorem wd_ba80cc8e : Cond.code yX8_seal cX8_seal 3 (some .int) ∈ GT := GT_mem 1028 rfl (by decide +kernel)
theorem wd_bac9fc7d : Cond.fieldLink RX8 40 RX8 "undoStackLong" "[I" ∈ GT := GT_mem 741 (by decide +kernel) (by decide +kernel)
theorem wd_bacbae11 : Cond.instanceMethod yX3_fail ∈ GT := GT_mem 450 (by decide +kernel) (by decide +kernel)
theorem wd_bb230bc9 : Cond.methodLink RX2 37 yX0_byteAt ∈ GT := GT_mem 533 (by decide +kernel) (by decide +kernel)
theorem wd_bb64a795 : Cond.fieldLink RX8 58 RX8 "newMemory" "[I" ∈ GT := GT_mem 750 (by decide +kernel) (by decide +kernel)
theorem wd_bb71b3cd : Cond.constant RX3 83 (1179603533) ∈ GT := GT_mem 435 (by decide +kernel) (by decide +kernel)
theorem wd_bca33b46 : Cond.methodLink RX3 98 yX0_byteAt ∈ GT := GT_mem 452 (by decide +kernel) (by decide +kernel)
theorem wd_bd2e3f93 : Cond.methodLink RL 95 yX8_alter ∈ GT := GT_mem 1012 (by decide +kernel) (by decide +kernel)
theorem wd_be901d10 : Cond.fieldLink RX8 167 RX8 "fileLong" "I" ∈ GT := GT_mem 729 (by decide +kernel) (by decide +kernel)
theorem wd_be97f049 : Cond.selects RX7 yX7_at yX7_at ∈ GT := GT_mem 579 (by decide +kernel) (by decide +kernel)
theorem wd_bec11d83 : Cond.methodLink RX7 187 yX5_takeLatest ∈ GT := GT_mem 569 (by decide +kernel) (by decide +kernel)
theorem wd_c062f537 : Cond.instanceMethod yX1_become ∈ GT := GT_mem 539 (by decide +kernel) (by decide +kernel)
theorem wd_c08c9fd4 : Cond.methodLink RX3 105 yX3_mayCome ∈ GT := GT_mem 470 (by decide +kernel) (by decide +kernel)
theorem wd_c092511a : Cond.methodLink RX8 138 yX8_put ∈ GT := GT_mem 911 (by decide +kernel) (by decide +kernel)
theorem wd_c0a6754f : Cond.methodLink RX8 104 yX8_original ∈ GT := GT_mem 712 (by decide +kernel) (by decide +kernel)
theorem wd_c0bf6bc9 : Cond.static yL_cell ∈ GT := GT_mem 619 (by decide +kernel) (by decide +kernel)
theorem wd_c186077d : Cond.selects RX0 yX0_fourAt yX0_fourAt ∈ GT := GT_mem 463 (by decide +kernel) (by decide +kernel)
theorem wd_c1d1c859 : Cond.instanceMethod yX8_isSize ∈ GT := GT_mem 877 (by decide +kernel) (by decide +kernel)
set_option maxRecDepth 20000 in
theorem wd_c1f57a86 : Cond.code yX6_writeHead cX6_writeHead 4 none ∈ GT := GT_mem 379 rfl (by decide +kernel)
theorem wd_c201d5c8 : Cond.arrayClass .int ∈ GT := GT_mem 105 (by decide +kernel) (by decide +kernel)
theorem wd_c35361d8 : Cond.methodLink RX4 3 objectInit ∈ GT := GT_mem 173 (by decide +kernel) (by decide +kernel)
theorem wd_c35befcd : Cond.selects RX8 yX8_mark yX8_mark ∈ GT := GT_mem 994 (by decide +kernel) (by decide +kernel)
theorem wd_c391b65f : Cond.instanceMethod yX3_readLetters ∈ GT := GT_mem 438 (by decide +kernel) (by decide +kernel)
theorem wd_c42f7ec9 : Cond.methodLink RL 83 yX8_undo ∈ GT := GT_mem 1000 (by decide +kernel) (by decide +kernel)
set_option maxRecDepth 20000 in
theorem wd_c459823a : Cond.code yX8_readBlocks cX8_readBlocks 5 none ∈ GT := GT_mem 983 rfl (by decide +kernel)
theorem wd_c4b21be1 : Cond.methodLink RX3 68 yX3_fail ∈ GT := GT_mem 448 (by decide +kernel) (by decide +kernel)
set_option maxRecDepth 20000 in
theorem wd_c54a36b5 : Cond.code yX3_readHead cX3_readHead 4 (some .boolean) ∈ GT := GT_mem 503 rfl (by decide +kernel)
theorem wd_c58ca459 : Cond.methodLink RX8 142 yX8_putFour ∈ GT := GT_mem 907 (by decide +kernel) (by decide +kernel)
theorem wd_c5ba05d1 : Cond.selects RX0 yX0_become yX0_become ∈ GT := GT_mem 415 (by decide +kernel) (by decide +kernel)
theorem wd_c6904ba3 : Cond.instanceMethod yX7_at ∈ GT := GT_mem 578 (by decide +kernel) (by decide +kernel)
theorem wd_c6a7d207 : Cond.methodLink RL 84 yX7_restart ∈ GT := GT_mem 573 (by decide +kernel) (by decide +kernel)
theorem wd_c6bc4f1c : Cond.fieldLink RX3 59 RX0 "size" "I" ∈ GT := GT_mem 139 (by decide +kernel) (by decide +kernel)
theorem wd_c6cef573 : Cond.initialized "java/lang/Math" ∈ GT := GT_mem 55 (by decide +kernel) (by decide +kernel)
theorem wd_c6ddec2c : Cond.methodLink RX6 65 yX6_closeChunk ∈ GT := GT_mem 385 (by decide +kernel) (by decide +kernel)
theorem wd_c6f3d4bc : Cond.instanceMethod yX0_setFour ∈ GT := GT_mem 389 (by decide +kernel) (by decide +kernel)
set_option maxRecDepth 20000 in
theorem wd_c7150401 : Cond.code yX8_init cX8_init 5 none ∈ GT := GT_mem 703 rfl (by decide +kernel)
theorem wd_c7d3830f : Cond.selects RX8 yX8_fourAt yX8_fourAt ∈ GT := GT_mem 32 (by decide +kernel) (by decide +kernel)
theorem wd_c84a734c : Cond.methodLink RX6 77 yX6_writeZeros ∈ GT := GT_mem 396 (by decide +kernel) (by decide +kernel)
theorem wd_c8f5b245 : Cond.methodLink RX3 148 yX2_addFrom ∈ GT := GT_mem 528 (by decide +kernel) (by decide +kernel)
theorem wd_c98f0593 : Cond.instanceMethod yX1_blockAt ∈ GT := GT_mem 341 (by decide +kernel) (by decide +kernel)
theorem wd_cabfa289 : Cond.selects RX8 yX8_free yX8_free ∈ GT := GT_mem 895 (by decide +kernel) (by decide +kernel)
theorem wd_cb5ef30f : Cond.instanceMethod yX7_poke ∈ GT := GT_mem 290 (by decide +kernel) (by decide +kernel)
theorem wd_cc062843 : Cond.fieldLink RX8 64 RX8 "newStarts" "[I" ∈ GT := GT_mem 754 (by decide +kernel) (by decide +kernel)
theorem wd_ccb04588 : Cond.instanceMethod yX7_save ∈ GT := GT_mem 353 (by decide +kernel) (by decide +kernel)
set_option maxRecDepth 20000 in
theorem wd_ccfd8ef1 : Cond.code yX3_fail cX3_fail 3 (some .boolean) ∈ GT := GT_mem 451 rfl (by decide +kernel)
theorem wd_cd59f113 : Cond.methodLink RL 92 yX7_alter ∈ GT := GT_mem 583 (by decide +kernel) (by decide +kernel)
theorem wd_cd65991b : Cond.selects RX8 yX8_letters yX8_letters ∈ GT := GT_mem 29 (by decide +kernel) (by decide +kernel)
theorem wd_ce48e838 : Cond.methodLink RX8 159 yX8_putMemory ∈ GT := GT_mem 929 (by decide +kernel) (by decide +kernel)
theorem wd_ce9e8ff6 : Cond.instanceMethod yX1_changeSize ∈ GT := GT_mem 309 (by decide +kernel) (by decide +kernel)
theorem wd_cff6f869 : Cond.constantLong RX8 113 (255) ∈ GT := GT_mem 870 (by decide +kernel) (by decide +kernel)
theorem wd_cffe18ae : Cond.selects RX8 yX8_block yX8_block ∈ GT := GT_mem 890 (by decide +kernel) (by decide +kernel)
set_option maxRecDepth 20000 in
theorem wd_d0130539 : Cond.code yX3_mayCome cX3_mayCome 4 (some .boolean) ∈ GT := GT_mem 473 rfl (by decide +kernel)
theorem wd_d026fe99 : Cond.fieldLink RX8 129 RX8 "guardAt" "I" ∈ GT := GT_mem 727 (by decide +kernel) (by decide +kernel)
theorem wd_d064cc60 : Cond.fieldLink RX8 28 RX8 "otherLong" "[I" ∈ GT := GT_mem 733 (by decide +kernel) (by decide +kernel)
theorem wd_d194698a : Cond.methodLink RX7 173 yX7_bringBack ∈ GT := GT_mem 534 (by decide +kernel) (by decide +kernel)
theorem wd_d214f5a8 : Cond.selects RX8 yX8_peek yX8_peek ∈ GT := GT_mem 864 (by decide +kernel) (by decide +kernel)
set_option maxRecDepth 20000 in
theorem wd_d27aea94 : Cond.code yX8_has cX8_has 3 (some .boolean) ∈ GT := GT_mem 951 rfl (by decide +kernel)
theorem wd_d3dc0c73 : Cond.instanceMethod yX3_readInside ∈ GT := GT_mem 498 (by decide +kernel) (by decide +kernel)
theorem wd_d433730b : Cond.methodLink RX3 126 yX3_lengthIsRight ∈ GT := GT_mem 485 (by decide +kernel) (by decide +kernel)
theorem wd_d459223f : Cond.instantiable RX4 3 ∈ GT := GT_mem 169 (by decide +kernel) (by decide +kernel)
theorem wd_d4608ca1 : Cond.fieldLink RX3 76 RX2 "count" "I" ∈ GT := GT_mem 113 (by decide +kernel) (by decide +kernel)
theorem wd_d744f41b : Cond.selects RX1 yX1_number yX1_number ∈ GT := GT_mem 616 (by decide +kernel) (by decide +kernel)
theorem wd_d7e2667f : Cond.fieldLink RX8 108 RX8 "thrown" "I" ∈ GT := GT_mem 716 (by decide +kernel) (by decide +kernel)
theorem wd_d967c277 : Cond.instanceMethod yX7_fault ∈ GT := GT_mem 549 (by decide +kernel) (by decide +kernel)
theorem wd_d9b0f2b0 : Cond.instanceMethod yX7_cut ∈ GT := GT_mem 589 (by decide +kernel) (by decide +kernel)
theorem wd_d9bf75f0 : Cond.selects RX8 yX8_at yX8_at ∈ GT := GT_mem 1010 (by decide +kernel) (by decide +kernel)
theorem wd_d9f448e4 : Cond.methodLink RL 45 yL_pop ∈ GT := GT_mem 621 (by decide +kernel) (by decide +kernel)
theorem wd_da1bf115 : Cond.selects RX8 yX8_alter yX8_alter ∈ GT := GT_mem 1014 (by decide +kernel) (by decide +kernel)
set_option maxRecDepth 20000 in
theorem wd_da8d1726 : Cond.code yX1_addBlock cX1_addBlock 4 (some .boolean) ∈ GT := GT_mem 335 rfl (by decide +kernel)
set_option maxRecDepth 20000 in
theorem wd_db476b0b : Cond.code yX6_openChunk cX6_openChunk 3 (some .int) ∈ GT := GT_mem 383 rfl (by decide +kernel)
theorem wd_dbcfb426 : Cond.methodLink RX7 91 yX4_allowsSize ∈ GT := GT_mem 300 (by decide +kernel) (by decide +kernel)
theorem wd_dbd53fbf : Cond.fieldLink RX8 197 RX8 "came" "I" ∈ GT := GT_mem 760 (by decide +kernel) (by decide +kernel)
set_option maxRecDepth 20000 in
theorem wd_dc23aa7d : Cond.code yX5_takeLatest cX5_takeLatest 1 (some (.object "GlulxSaves$Machine")) ∈ GT := GT_mem 572 rfl (by decide +kernel)
theorem wd_dc3135e4 : Cond.selects RX2 yX2_become yX2_become ∈ GT := GT_mem 545 (by decide +kernel) (by decide +kernel)
theorem wd_dc523f62 : Cond.instanceMethod yX7_alter ∈ GT := GT_mem 584 (by decide +kernel) (by decide +kernel)
theorem wd_dc863bbd : Cond.fieldLink RX7 170 RX3 "machine" "LGlulxSaves$Machine;" ∈ GT := GT_mem 208 (by decide +kernel) (by decide +kernel)
theorem wd_dcdb39cf : Cond.selects RX8 yX8_protect yX8_protect ∈ GT := GT_mem 899 (by decide +kernel) (by decide +kernel)
theorem wd_dd3c6667 : Cond.static Lib.Math.min.name ∈ GT := GT_mem 400 (by decide +kernel) (by decide +kernel)
theorem wd_dd627fb1 : Cond.fieldLink RX8 61 RX8 "newStack" "[I" ∈ GT := GT_mem 752 (by decide +kernel) (by decide +kernel)
theorem wd_dda7648f : Cond.methodLink RX6 47 yX0_setFour ∈ GT := GT_mem 388 (by decide +kernel) (by decide +kernel)
set_option maxRecDepth 20000 in
theorem wd_ddce5980 : Cond.code yX7_alter cX7_alter 4 (some .int) ∈ GT := GT_mem 586 rfl (by decide +kernel)
theorem wd_de0b7691 : Cond.methodLink RL 68 yX7_load ∈ GT := GT_mem 418 (by decide +kernel) (by decide +kernel)
theorem wd_de258017 : Cond.methodLink RL 91 yX8_at ∈ GT := GT_mem 1008 (by decide +kernel) (by decide +kernel)
theorem wd_de544b14 : Cond.constant RX8 156 (1179603533) ∈ GT := GT_mem 906 (by decide +kernel) (by decide +kernel)
set_option maxRecDepth 20000 in
theorem wd_deaa9c2b : Cond.code yX3_readStack cX3_readStack 5 (some .boolean) ∈ GT := GT_mem 516 rfl (by decide +kernel)
theorem wd_deb40c3a : Cond.fieldLink RX7 167 RX3 "place" "I" ∈ GT := GT_mem 214 (by decide +kernel) (by decide +kernel)
theorem wd_df48c1f3 : Cond.selects RX8 yX8_more yX8_more ∈ GT := GT_mem 1022 (by decide +kernel) (by decide +kernel)
theorem wd_df590192 : Cond.fieldLink RX5 11 RX5 "kept" "[LGlulxSaves$Machine;" ∈ GT := GT_mem 160 (by decide +kernel) (by decide +kernel)
theorem wd_dfcb6716 : Cond.instanceMethod yX8_seal ∈ GT := GT_mem 1026 (by decide +kernel) (by decide +kernel)
theorem wd_e13a4146 : Cond.instanceMethod yX8_putFour ∈ GT := GT_mem 909 (by decide +kernel) (by decide +kernel)
theorem wd_e1435d49 : Cond.fieldLink RX8 31 RX8 "otherByte" "[I" ∈ GT := GT_mem 734 (by decide +kernel) (by decide +kernel)
theorem wd_e225e309 : Cond.instanceMethod yX3_readWholeLength ∈ GT := GT_mem 459 (by decide +kernel) (by decide +kernel)
set_option maxRecDepth 20000 in
theorem wd_e293a070 : Cond.code yX7_resize cX7_resize 3 (some .int) ∈ GT := GT_mem 299 rfl (by decide +kernel)
set_option maxRecDepth 20000 in
theorem wd_e2df4104 : Cond.code yX3_readMemory cX3_readMemory 9 (some .boolean) ∈ GT := GT_mem 512 rfl (by decide +kernel)
theorem wd_e4200523 : Cond.selects RX7 yX7_pop yX7_pop ∈ GT := GT_mem 627 (by decide +kernel) (by decide +kernel)
theorem wd_e4fa6b86 : Cond.methodLink RX3 136 yX3_readSize ∈ GT := GT_mem 504 (by decide +kernel) (by decide +kernel)
theorem wd_e568f2d6 : Cond.constant RX8 163 (1296133228) ∈ GT := GT_mem 935 (by decide +kernel) (by decide +kernel)
theorem wd_e58a4e5f : Cond.methodLink RX7 115 yX1_takeInt ∈ GT := GT_mem 695 (by decide +kernel) (by decide +kernel)
theorem wd_e5c723f7 : Cond.methodLink RL 21 yX7_init ∈ GT := GT_mem 58 (by decide +kernel) (by decide +kernel)
theorem wd_e5cacae1 : Cond.selects RX3 yX3_readInside yX3_readInside ∈ GT := GT_mem 11 (by decide +kernel) (by decide +kernel)
set_option maxRecDepth 20000 in
theorem wd_e5df6170 : Cond.code yX7_peek cX7_peek 2 (some .int) ∈ GT := GT_mem 288 rfl (by decide +kernel)
theorem wd_e6080271 : Cond.selects RX3 yX3_wasSeen yX3_wasSeen ∈ GT := GT_mem 8 (by decide +kernel) (by decide +kernel)
theorem wd_e617cacd : Cond.fieldLink RX8 221 RX8 "newM" "I" ∈ GT := GT_mem 749 (by decide +kernel) (by decide +kernel)
theorem wd_e666fb17 : Cond.instanceMethod yX8_protect ∈ GT := GT_mem 898 (by decide +kernel) (by decide +kernel)
theorem wd_e6687a9e : Cond.methodLink RX8 194 yX8_readChunk ∈ GT := GT_mem 961 (by decide +kernel) (by decide +kernel)
theorem wd_e693a14e : Cond.methodLink RL 87 yX8_restart ∈ GT := GT_mem 1004 (by decide +kernel) (by decide +kernel)
theorem wd_e6d5543a : Cond.methodLink RX8 191 yX8_fourAt ∈ GT := GT_mem 957 (by decide +kernel) (by decide +kernel)
theorem wd_e712216b : Cond.selects RX3 yX3_readMemory yX3_readMemory ∈ GT := GT_mem 14 (by decide +kernel) (by decide +kernel)
set_option maxRecDepth 20000 in
theorem wd_e724aada : Cond.code yX8_in cX8_in 6 (some .boolean) ∈ GT := GT_mem 709 rfl (by decide +kernel)
theorem wd_e75b29b0 : Cond.instanceMethod yX3_readMemory ∈ GT := GT_mem 511 (by decide +kernel) (by decide +kernel)
theorem wd_e7ef42c9 : Cond.static yL_pop ∈ GT := GT_mem 622 (by decide +kernel) (by decide +kernel)
set_option maxRecDepth 20000 in
theorem wd_e83105ae : Cond.code yX4_allowsSize cX4_allowsSize 2 (some .boolean) ∈ GT := GT_mem 303 rfl (by decide +kernel)
theorem wd_e83629c9 : Cond.selects RX3 yX3_readLetters yX3_readLetters ∈ GT := GT_mem 2 (by decide +kernel) (by decide +kernel)
set_option maxRecDepth 20000 in
theorem wd_e864190a : Cond.code yX8_isSize cX8_isSize 2 (some .boolean) ∈ GT := GT_mem 878 rfl (by decide +kernel)
theorem wd_e87503a2 : Cond.fieldLink RX6 94 RX1 "starts" "[I" ∈ GT := GT_mem 84 (by decide +kernel) (by decide +kernel)
theorem wd_e87cf81d : Cond.methodLink RL 71 yX8_load ∈ GT := GT_mem 936 (by decide +kernel) (by decide +kernel)
theorem wd_e8df3b35 : Cond.instanceMethod yX8_push ∈ GT := GT_mem 881 (by decide +kernel) (by decide +kernel)
theorem wd_e9509434 : Cond.fieldLink RX7 39 RX7 "rows" "LGlulxSaves$Undo;" ∈ GT := GT_mem 254 (by decide +kernel) (by decide +kernel)
theorem wd_ea877af5 : Cond.instanceMethod yX3_readBlocks ∈ GT := GT_mem 520 (by decide +kernel) (by decide +kernel)
set_option maxRecDepth 20000 in
theorem wd_eac9ded3 : Cond.code yX5_dropEldest cX5_dropEldest 3 none ∈ GT := GT_mem 563 rfl (by decide +kernel)
theorem wd_eaf45727 : Cond.constant RX6 93 (1296133228) ∈ GT := GT_mem 409 (by decide +kernel) (by decide +kernel)
theorem wd_eafd9351 : Cond.selects RX8 yX8_isGuarded yX8_isGuarded ∈ GT := GT_mem 38 (by decide +kernel) (by decide +kernel)
theorem wd_eb11a680 : Cond.methodLink RX1 3 objectInit ∈ GT := GT_mem 69 (by decide +kernel) (by decide +kernel)
theorem wd_ebe0ff90 : Cond.fieldLink RX8 227 RX8 "newBlocks" "I" ∈ GT := GT_mem 753 (by decide +kernel) (by decide +kernel)
theorem wd_ec09e56c : Cond.methodLink RX3 129 yX3_isKnown ∈ GT := GT_mem 488 (by decide +kernel) (by decide +kernel)
theorem wd_ec5e7e6b : Cond.instanceMethod yX7_seal ∈ GT := GT_mem 598 (by decide +kernel) (by decide +kernel)
theorem wd_ecb4064a : Cond.instanceMethod yX3_readHead ∈ GT := GT_mem 502 (by decide +kernel) (by decide +kernel)
set_option maxRecDepth 20000 in
theorem wd_ecd8206f : Cond.code yX1_blocksEnd cX1_blocksEnd 1 (some .int) ∈ GT := GT_mem 307 rfl (by decide +kernel)
theorem wd_ed93f0db : Cond.instanceMethod yX3_isWhole ∈ GT := GT_mem 494 (by decide +kernel) (by decide +kernel)
theorem wd_ed9a04c8 : Cond.instanceMethod yX8_load ∈ GT := GT_mem 937 (by decide +kernel) (by decide +kernel)
theorem wd_edd90926 : Cond.selects RX8 yX8_count yX8_count ∈ GT := GT_mem 1031 (by decide +kernel) (by decide +kernel)
theorem wd_edda9297 : Cond.methodLink RX8 179 yX8_fail ∈ GT := GT_mem 952 (by decide +kernel) (by decide +kernel)
theorem wd_ede63543 : Cond.fieldLink RX6 70 RX1 "size" "I" ∈ GT := GT_mem 76 (by decide +kernel) (by decide +kernel)
theorem wd_ee16102d : Cond.instanceMethod yX8_count ∈ GT := GT_mem 1030 (by decide +kernel) (by decide +kernel)
theorem wd_ee241d54 : Cond.selects RX7 yX7_push yX7_push ∈ GT := GT_mem 314 (by decide +kernel) (by decide +kernel)
theorem wd_ef705b61 : Cond.static yX4_inSteps ∈ GT := GT_mem 175 (by decide +kernel) (by decide +kernel)
set_option maxRecDepth 20000 in
theorem wd_ef84d0d9 : Cond.code yX3_lengthIsRight cX3_lengthIsRight 2 (some .boolean) ∈ GT := GT_mem 487 rfl (by decide +kernel)
theorem wd_f052b195 : Cond.selects RX7 yX7_protect yX7_protect ∈ GT := GT_mem 350 (by decide +kernel) (by decide +kernel)
theorem wd_f073ccae : Cond.constantLong RX8 127 (511) ∈ GT := GT_mem 901 (by decide +kernel) (by decide +kernel)
theorem wd_f0967212 : Cond.instanceMethod yX8_putAt ∈ GT := GT_mem 927 (by decide +kernel) (by decide +kernel)
theorem wd_f0ab0517 : Cond.constant RX3 124 (1400138611) ∈ GT := GT_mem 479 (by decide +kernel) (by decide +kernel)
theorem wd_f0d8081c : Cond.instanceMethod yX7_push ∈ GT := GT_mem 313 (by decide +kernel) (by decide +kernel)
theorem wd_f0fccc62 : Cond.methodLink RX3 133 yX3_readHead ∈ GT := GT_mem 500 (by decide +kernel) (by decide +kernel)
theorem wd_f101bb0b : Cond.methodLink RL 67 yX8_save ∈ GT := GT_mem 902 (by decide +kernel) (by decide +kernel)
theorem wd_f153588a : Cond.fieldLink RX0 9 RX0 "bytes" "[I" ∈ GT := GT_mem 137 (by decide +kernel) (by decide +kernel)
theorem wd_f18773e5 : Cond.instanceMethod yX1_init ∈ GT := GT_mem 67 (by decide +kernel) (by decide +kernel)
theorem wd_f187aae3 : Cond.methodLink RL 37 yX7_resize ∈ GT := GT_mem 296 (by decide +kernel) (by decide +kernel)
theorem wd_f190869a : Cond.methodLink RX5 3 objectInit ∈ GT := GT_mem 156 (by decide +kernel) (by decide +kernel)
theorem wd_f194ef57 : Cond.instanceMethod yX4_allowsSize ∈ GT := GT_mem 301 (by decide +kernel) (by decide +kernel)
theorem wd_f198c27d : Cond.fieldLink RX8 43 RX8 "undoStack" "[I" ∈ GT := GT_mem 742 (by decide +kernel) (by decide +kernel)
theorem wd_f1b8add4 : Cond.methodLink RX7 58 yX4_init ∈ GT := GT_mem 170 (by decide +kernel) (by decide +kernel)
theorem wd_f1c8f35b : Cond.fieldLink RX8 240 RX8 "faultAt" "I" ∈ GT := GT_mem 737 (by decide +kernel) (by decide +kernel)
theorem wd_f1e4880f : Cond.methodLink RL 59 yX8_free ∈ GT := GT_mem 893 (by decide +kernel) (by decide +kernel)
theorem wd_f1f06e18 : Cond.fieldLink RX6 31 RX1 "blocks" "I" ∈ GT := GT_mem 88 (by decide +kernel) (by decide +kernel)
set_option maxRecDepth 20000 in
theorem wd_f29d45a6 : Cond.code yX6_writeOthers cX6_writeOthers 5 none ∈ GT := GT_mem 412 rfl (by decide +kernel)
set_option maxRecDepth 20000 in
theorem wd_f36341e6 : Cond.code yX8_isGuarded cX8_isGuarded 2 (some .boolean) ∈ GT := GT_mem 987 rfl (by decide +kernel)
theorem wd_f3969006 : Cond.instanceMethod yX0_fourAt ∈ GT := GT_mem 462 (by decide +kernel) (by decide +kernel)
theorem wd_f439a22a : Cond.fieldLink RX3 21 RX3 "others" "LGlulxSaves$Others;" ∈ GT := GT_mem 209 (by decide +kernel) (by decide +kernel)
theorem wd_f45c124d : Cond.fieldLink RX8 164 RX8 "others" "I" ∈ GT := GT_mem 731 (by decide +kernel) (by decide +kernel)
theorem wd_f45c3ef6 : Cond.constant RX8 162 (1400138611) ∈ GT := GT_mem 934 (by decide +kernel) (by decide +kernel)
theorem wd_f469a9aa : Cond.methodLink RX7 191 yX0_holds ∈ GT := GT_mem 581 (by decide +kernel) (by decide +kernel)
theorem wd_f4ccfa15 : Cond.classLink RX3 18 RX2 ∈ GT := GT_mem 204 (by decide +kernel) (by decide +kernel)
theorem wd_f5235d4d : Cond.instanceMethod yX8_move ∈ GT := GT_mem 998 (by decide +kernel) (by decide +kernel)
theorem wd_f582e481 : Cond.instanceMethod yX8_readStack ∈ GT := GT_mem 978 (by decide +kernel) (by decide +kernel)
theorem wd_f5bc893f : Cond.fieldLink RX1 45 RX4 "end" "I" ∈ GT := GT_mem 182 (by decide +kernel) (by decide +kernel)
theorem wd_f5eaee75 : Cond.methodLink RX6 55 yX6_openChunk ∈ GT := GT_mem 381 (by decide +kernel) (by decide +kernel)
theorem wd_f761ba5c : Cond.selects RX8 yX8_thrown yX8_thrown ∈ GT := GT_mem 860 (by decide +kernel) (by decide +kernel)
theorem wd_f84fecb1 : Cond.fieldLink RX7 43 RX7 "protectedFrom" "I" ∈ GT := GT_mem 256 (by decide +kernel) (by decide +kernel)
theorem wd_f86497e1 : Cond.fieldLink RX8 119 RX8 "blocks" "I" ∈ GT := GT_mem 724 (by decide +kernel) (by decide +kernel)
theorem wd_f8964cb1 : Cond.constantLong RX8 202 (12) ∈ GT := GT_mem 966 (by decide +kernel) (by decide +kernel)
theorem wd_f8f07a5d : Cond.instanceMethod yX8_chunk ∈ GT := GT_mem 919 (by decide +kernel) (by decide +kernel)
set_option maxRecDepth 20000 in
theorem wd_f926e74c : Cond.code yX7_undo cX7_undo 2 (some .int) ∈ GT := GT_mem 568 rfl (by decide +kernel)
theorem wd_f9374d62 : Cond.methodLink RX7 160 yX3_read ∈ GT := GT_mem 422 (by decide +kernel) (by decide +kernel)
theorem wd_f94b63d4 : Cond.selects RX1 yX1_takeInt yX1_takeInt ∈ GT := GT_mem 697 (by decide +kernel) (by decide +kernel)
theorem wd_f9769d78 : Cond.selects RX8 yX8_readHead yX8_readHead ∈ GT := GT_mem 34 (by decide +kernel) (by decide +kernel)
theorem wd_fa12341b : Cond.constantLong RX8 83 (16) ∈ GT := GT_mem 705 (by decide +kernel) (by decide +kernel)
theorem wd_fa657b79 : Cond.fieldLink RX7 177 RX3 "others" "LGlulxSaves$Others;" ∈ GT := GT_mem 210 (by decide +kernel) (by decide +kernel)
theorem wd_fa99e3d3 : Cond.instanceMethod yX1_number ∈ GT := GT_mem 615 (by decide +kernel) (by decide +kernel)
theorem wd_fa9e6c19 : Cond.selects RX7 yX7_fault yX7_fault ∈ GT := GT_mem 550 (by decide +kernel) (by decide +kernel)
theorem wd_faff6e42 : Cond.instanceMethod yX8_letters ∈ GT := GT_mem 946 (by decide +kernel) (by decide +kernel)
theorem wd_faffe8e4 : Cond.constant RX6 69 (1129145709) ∈ GT := GT_mem 395 (by decide +kernel) (by decide +kernel)
theorem wd_fb0e5dcc : Cond.fieldLink RX3 39 RX3 "sawMemory" "Z" ∈ GT := GT_mem 217 (by decide +kernel) (by decide +kernel)
theorem wd_fb97a031 : Cond.constant RX6 54 (1229351012) ∈ GT := GT_mem 380 (by decide +kernel) (by decide +kernel)
theorem wd_fb9fa5ac : Cond.classLink RX7 26 RX0 ∈ GT := GT_mem 131 (by decide +kernel) (by decide +kernel)
theorem wd_fbdca231 : Cond.instanceMethod yX0_byteAt ∈ GT := GT_mem 453 (by decide +kernel) (by decide +kernel)
theorem wd_fc441b44 : Cond.selects RX7 yX7_poke yX7_poke ∈ GT := GT_mem 291 (by decide +kernel) (by decide +kernel)
theorem wd_fcbbce2d : Cond.fieldLink RX7 132 RX1 "blocks" "I" ∈ GT := GT_mem 89 (by decide +kernel) (by decide +kernel)
set_option maxRecDepth 20000 in
theorem wd_fd01c5c0 : Cond.code yX7_bringBack cX7_bringBack 2 none ∈ GT := GT_mem 537 rfl (by decide +kernel)
theorem wd_fd363865 : Cond.fieldLink RX6 71 RX4 "ram" "I" ∈ GT := GT_mem 179 (by decide +kernel) (by decide +kernel)
theorem wd_fd518ac9 : Cond.selects RX7 yX7_load yX7_load ∈ GT := GT_mem 420 (by decide +kernel) (by decide +kernel)
theorem wd_fd638f43 : Cond.classLink RL 24 RX8 ∈ GT := GT_mem 699 (by decide +kernel) (by decide +kernel)
theorem wd_fd718f56 : Cond.instanceMethod yX3_readStack ∈ GT := GT_mem 515 (by decide +kernel) (by decide +kernel)
theorem wd_fdbf7a08 : Cond.methodLink RX2 31 yX0_fourAt ∈ GT := GT_mem 532 (by decide +kernel) (by decide +kernel)
theorem wd_fdec35b1 : Cond.selects RX7 yX7_hash yX7_hash ∈ GT := GT_mem 612 (by decide +kernel) (by decide +kernel)
theorem wd_fe02a09c : Cond.methodLink RX3 158 yX4_allowsSize ∈ GT := GT_mem 508 (by decide +kernel) (by decide +kernel)
theorem wd_fe288aa0 : Cond.instanceMethod yX7_hash ∈ GT := GT_mem 611 (by decide +kernel) (by decide +kernel)
theorem wd_fe8bb84e : Cond.fieldLink RX8 49 RX8 "undoStarts" "[I" ∈ GT := GT_mem 744 (by decide +kernel) (by decide +kernel)
set_option maxRecDepth 20000 in
theorem wd_fea0140f : Cond.code yX1_number cX1_number 3 (some .int) ∈ GT := GT_mem 617 rfl (by decide +kernel)
theorem wd_fece7429 : Cond.fieldLink RX4 9 RX4 "original" "[I" ∈ GT := GT_mem 185 (by decide +kernel) (by decide +kernel)
theorem wd_fef71786 : Cond.instanceMethod yX8_at ∈ GT := GT_mem 1009 (by decide +kernel) (by decide +kernel)
theorem inG_X0 : ∀ w ∈ wsX00, w ∈ GT := GT_all [144, 146, 148] (by decide +kernel) (by decide +kernel)
theorem inG_X1 : ∀ w ∈ wsX10, w ∈ GT := GT_all [90, 92, 94, 96, 98, 100, 102] (by decide +kernel) (by decide +kernel)
theorem inG_X2 : ∀ w ∈ wsX20, w ∈ GT := GT_all [122, 124, 126, 128] (by decide +kernel) (by decide +kernel)
theorem inG_X3 : ∀ w ∈ wsX30, w ∈ GT := GT_all [220, 222, 224, 226, 228, 230, 232, 234, 236, 238] (by decide +kernel) (by decide +kernel)
theorem inG_X4 : ∀ w ∈ wsX40, w ∈ GT := GT_all [189, 191, 193] (by decide +kernel) (by decide +kernel)
theorem inG_X5 : ∀ w ∈ wsX50, w ∈ GT := GT_all [163, 165] (by decide +kernel) (by decide +kernel)
theorem inG_X7 : ∀ w ∈ wsX70, w ∈ GT := GT_all [260, 262, 264, 266, 268, 270, 272, 274, 276, 278, 280, 282] (by decide +kernel) (by decide +kernel)
theorem inG_X8 : ∀ w ∈ wsX80, w ∈ GT := GT_all [763, 765, 767, 769, 771, 773, 775, 777, 779, 781, 783, 785, 787, 789, 791, 793, 795, 797, 799, 801, 803, 805, 807, 809, 811, 813, 815, 817, 819, 821, 823, 825, 827, 829, 831, 833, 835, 837, 839, 841, 843, 845, 847, 849, 851, 853, 855] (by decide +kernel) (by decide +kernel)
theorem tf_X0_0 : TX0 0 = (RX0, "bytes", "[I", true) := rfl
theorem tf_X0_1 : TX0 1 = (RX0, "size", "I", false) := rfl
theorem tf_X0_2 : TX0 2 = (RX0, "overflowed", "Z", false) := rfl
theorem tf_X1_0 : TX1 0 = (RX1, "memory", "[I", true) := rfl
theorem tf_X1_1 : TX1 1 = (RX1, "size", "I", false) := rfl
theorem tf_X1_2 : TX1 2 = (RX1, "stack", "[I", true) := rfl
theorem tf_X1_3 : TX1 3 = (RX1, "depth", "I", false) := rfl
theorem tf_X1_4 : TX1 4 = (RX1, "starts", "[I", true) := rfl
theorem tf_X1_5 : TX1 5 = (RX1, "lengths", "[I", true) := rfl
theorem tf_X1_6 : TX1 6 = (RX1, "blocks", "I", false) := rfl
theorem tf_X2_0 : TX2 0 = (RX2, "count", "I", false) := rfl
theorem tf_X2_1 : TX2 1 = (RX2, "letters", "[I", true) := rfl
theorem tf_X2_2 : TX2 2 = (RX2, "lengths", "[I", true) := rfl
theorem tf_X2_3 : TX2 3 = (RX2, "bytes", "[I", true) := rfl
theorem tf_X3_0 : TX3 0 = (RX3, "story", "LGlulxSaves$Story;", true) := rfl
theorem tf_X3_1 : TX3 1 = (RX3, "machine", "LGlulxSaves$Machine;", true) := rfl
theorem tf_X3_2 : TX3 2 = (RX3, "others", "LGlulxSaves$Others;", true) := rfl
theorem tf_X3_3 : TX3 3 = (RX3, "fault", "I", false) := rfl
theorem tf_X3_4 : TX3 4 = (RX3, "place", "I", false) := rfl
theorem tf_X3_5 : TX3 5 = (RX3, "next", "I", false) := rfl
theorem tf_X3_6 : TX3 6 = (RX3, "sawHead", "Z", false) := rfl
theorem tf_X3_7 : TX3 7 = (RX3, "sawMemory", "Z", false) := rfl
theorem tf_X3_8 : TX3 8 = (RX3, "sawStack", "Z", false) := rfl
theorem tf_X3_9 : TX3 9 = (RX3, "sawBlocks", "Z", false) := rfl
theorem tf_X4_0 : TX4 0 = (RX4, "ram", "I", true) := rfl
theorem tf_X4_1 : TX4 1 = (RX4, "end", "I", true) := rfl
theorem tf_X4_2 : TX4 2 = (RX4, "original", "[I", true) := rfl
theorem tf_X5_0 : TX5 0 = (RX5, "kept", "[LGlulxSaves$Machine;", true) := rfl
theorem tf_X5_1 : TX5 1 = (RX5, "count", "I", false) := rfl
theorem tf_X7_0 : TX7 0 = (RX7, "story", "LGlulxSaves$Story;", true) := rfl
theorem tf_X7_1 : TX7 1 = (RX7, "now", "LGlulxSaves$Machine;", true) := rfl
theorem tf_X7_2 : TX7 2 = (RX7, "fresh", "LGlulxSaves$Machine;", true) := rfl
theorem tf_X7_3 : TX7 3 = (RX7, "others", "LGlulxSaves$Others;", true) := rfl
theorem tf_X7_4 : TX7 4 = (RX7, "file", "LGlulxSaves$Bytes;", true) := rfl
theorem tf_X7_5 : TX7 5 = (RX7, "draft", "LGlulxSaves$Bytes;", true) := rfl
theorem tf_X7_6 : TX7 6 = (RX7, "rows", "LGlulxSaves$Undo;", true) := rfl
theorem tf_X7_7 : TX7 7 = (RX7, "reader", "LGlulxSaves$Reader;", true) := rfl
theorem tf_X7_8 : TX7 8 = (RX7, "protectedFrom", "I", false) := rfl
theorem tf_X7_9 : TX7 9 = (RX7, "protectedBehind", "I", false) := rfl
theorem tf_X7_10 : TX7 10 = (RX7, "latestFault", "I", false) := rfl
theorem tf_X7_11 : TX7 11 = (RX7, "latestPlace", "I", false) := rfl
theorem tf_X8_0 : TX8 0 = (RX8, "thrown", "I", false) := rfl
theorem tf_X8_1 : TX8 1 = (RX8, "seed", "I", true) := rfl
theorem tf_X8_2 : TX8 2 = (RX8, "ram", "I", true) := rfl
theorem tf_X8_3 : TX8 3 = (RX8, "end", "I", true) := rfl
theorem tf_X8_4 : TX8 4 = (RX8, "m", "I", false) := rfl
theorem tf_X8_5 : TX8 5 = (RX8, "memory", "[I", true) := rfl
theorem tf_X8_6 : TX8 6 = (RX8, "stackLong", "I", false) := rfl
theorem tf_X8_7 : TX8 7 = (RX8, "stack", "[I", true) := rfl
theorem tf_X8_8 : TX8 8 = (RX8, "blocks", "I", false) := rfl
theorem tf_X8_9 : TX8 9 = (RX8, "starts", "[I", true) := rfl
theorem tf_X8_10 : TX8 10 = (RX8, "lengths", "[I", true) := rfl
theorem tf_X8_11 : TX8 11 = (RX8, "guardAt", "I", false) := rfl
theorem tf_X8_12 : TX8 12 = (RX8, "guardLong", "I", false) := rfl
theorem tf_X8_13 : TX8 13 = (RX8, "fileLong", "I", false) := rfl
theorem tf_X8_14 : TX8 14 = (RX8, "file", "[I", true) := rfl
theorem tf_X8_15 : TX8 15 = (RX8, "others", "I", false) := rfl
theorem tf_X8_16 : TX8 16 = (RX8, "otherName", "[I", true) := rfl
theorem tf_X8_17 : TX8 17 = (RX8, "otherLong", "[I", true) := rfl
theorem tf_X8_18 : TX8 18 = (RX8, "otherByte", "[I", true) := rfl
theorem tf_X8_19 : TX8 19 = (RX8, "wasFault", "Z", false) := rfl
theorem tf_X8_20 : TX8 20 = (RX8, "fault", "I", false) := rfl
theorem tf_X8_21 : TX8 21 = (RX8, "faultAt", "I", false) := rfl
theorem tf_X8_22 : TX8 22 = (RX8, "undos", "I", false) := rfl
theorem tf_X8_23 : TX8 23 = (RX8, "undoM", "[I", true) := rfl
theorem tf_X8_24 : TX8 24 = (RX8, "undoMemory", "[I", true) := rfl
theorem tf_X8_25 : TX8 25 = (RX8, "undoStackLong", "[I", true) := rfl
theorem tf_X8_26 : TX8 26 = (RX8, "undoStack", "[I", true) := rfl
theorem tf_X8_27 : TX8 27 = (RX8, "undoBlocks", "[I", true) := rfl
theorem tf_X8_28 : TX8 28 = (RX8, "undoStarts", "[I", true) := rfl
theorem tf_X8_29 : TX8 29 = (RX8, "undoLengths", "[I", true) := rfl
theorem tf_X8_30 : TX8 30 = (RX8, "made", "I", false) := rfl
theorem tf_X8_31 : TX8 31 = (RX8, "making", "[I", true) := rfl
theorem tf_X8_32 : TX8 32 = (RX8, "at", "I", false) := rfl
theorem tf_X8_33 : TX8 33 = (RX8, "newM", "I", false) := rfl
theorem tf_X8_34 : TX8 34 = (RX8, "newMemory", "[I", true) := rfl
theorem tf_X8_35 : TX8 35 = (RX8, "newStackLong", "I", false) := rfl
theorem tf_X8_36 : TX8 36 = (RX8, "newStack", "[I", true) := rfl
theorem tf_X8_37 : TX8 37 = (RX8, "newBlocks", "I", false) := rfl
theorem tf_X8_38 : TX8 38 = (RX8, "newStarts", "[I", true) := rfl
theorem tf_X8_39 : TX8 39 = (RX8, "newLengths", "[I", true) := rfl
theorem tf_X8_40 : TX8 40 = (RX8, "newOthers", "I", false) := rfl
theorem tf_X8_41 : TX8 41 = (RX8, "newName", "[I", true) := rfl
theorem tf_X8_42 : TX8 42 = (RX8, "newLong", "[I", true) := rfl
theorem tf_X8_43 : TX8 43 = (RX8, "newByte", "[I", true) := rfl
theorem tf_X8_44 : TX8 44 = (RX8, "came", "I", false) := rfl
theorem tf_X8_45 : TX8 45 = (RX8, "now", "I", false) := rfl
theorem tf_X8_46 : TX8 46 = (RX8, "nowAt", "I", false) := rfl
theorem ok_X0_add : OkY yX0_add cX0_add 2 none 1 := ⟨wd_4612b992, wd_7d25d4fd, by decide +kernel⟩
theorem okv_X0_add : OkV yX0_add := ⟨wd_a8fb5051, wd_50e3a115⟩
theorem ok_X0_addFour : OkY yX0_addFour cX0_addFour 3 none 1 := ⟨wd_22a8d00e, wd_7d25d4fd, by decide +kernel⟩
theorem okv_X0_addFour : OkV yX0_addFour := ⟨wd_a5e410de, wd_83412ee4⟩
theorem ok_X0_become : OkY yX0_become cX0_become 2 none 1 := ⟨wd_57cc4b0f, wd_7d25d4fd, by decide +kernel⟩
theorem okv_X0_become : OkV yX0_become := ⟨wd_39e86544, wd_c5ba05d1⟩
theorem ok_X0_byteAt : OkY yX0_byteAt cX0_byteAt 2 (some .int) 1 := ⟨wd_80953800, wd_7d25d4fd, by decide +kernel⟩
theorem okv_X0_byteAt : OkV yX0_byteAt := ⟨wd_fbdca231, wd_40cb1414⟩
theorem ok_X0_clear : OkY yX0_clear cX0_clear 1 none 0 := ⟨wd_7767b6c8, wd_7d25d4fd, by decide +kernel⟩
theorem okv_X0_clear : OkV yX0_clear := ⟨wd_85495c7c, wd_a3115a9b⟩
theorem ok_X0_fourAt : OkY yX0_fourAt cX0_fourAt 2 (some .int) 1 := ⟨wd_8460ae20, wd_7d25d4fd, by decide +kernel⟩
theorem okv_X0_fourAt : OkV yX0_fourAt := ⟨wd_f3969006, wd_c186077d⟩
theorem ok_X0_holds : OkY yX0_holds cX0_holds 4 (some .boolean) 2 := ⟨wd_8d26478a, wd_7d25d4fd, by decide +kernel⟩
theorem okv_X0_holds : OkV yX0_holds := ⟨wd_a5bb4bbc, wd_79cf8b8f⟩
theorem ok_X0_init : OkY yX0_init cX0_init 1 none 0 := ⟨wd_599be682, wd_7d25d4fd, by decide +kernel⟩
theorem oki_X0_init : Cond.instanceMethod yX0_init ∈ GT ∧ yX0_init.name = "<init>" := ⟨wd_6e7d7095, rfl⟩
theorem ok_X0_setByte : OkY yX0_setByte cX0_setByte 3 none 2 := ⟨wd_744e4c62, wd_7d25d4fd, by decide +kernel⟩
theorem okv_X0_setByte : OkV yX0_setByte := ⟨wd_7b8e6928, wd_4e8503b9⟩
theorem ok_X0_setFour : OkY yX0_setFour cX0_setFour 4 none 2 := ⟨wd_58a22276, wd_7d25d4fd, by decide +kernel⟩
theorem okv_X0_setFour : OkV yX0_setFour := ⟨wd_c6f3d4bc, wd_75a22239⟩
theorem ok_X1_addBlock : OkY yX1_addBlock cX1_addBlock 4 (some .boolean) 2 := ⟨wd_da8d1726, wd_944cf9c3, by decide +kernel⟩
theorem okv_X1_addBlock : OkV yX1_addBlock := ⟨wd_49ea5413, wd_08809eb1⟩
theorem ok_X1_addInt : OkY yX1_addInt cX1_addInt 2 (some .boolean) 1 := ⟨wd_405fc2b3, wd_944cf9c3, by decide +kernel⟩
theorem okv_X1_addInt : OkV yX1_addInt := ⟨wd_0e100aa8, wd_1f271a0c⟩
theorem ok_X1_become : OkY yX1_become cX1_become 7 none 3 := ⟨wd_5231f1b6, wd_944cf9c3, by decide +kernel⟩
theorem okv_X1_become : OkV yX1_become := ⟨wd_c062f537, wd_649de331⟩
theorem ok_X1_begin : OkY yX1_begin cX1_begin 2 none 1 := ⟨wd_90f8c2b1, wd_944cf9c3, by decide +kernel⟩
theorem okv_X1_begin : OkV yX1_begin := ⟨wd_84576693, wd_4027f4b6⟩
theorem ok_X1_blockAt : OkY yX1_blockAt cX1_blockAt 3 (some .int) 1 := ⟨wd_05c63fd9, wd_944cf9c3, by decide +kernel⟩
theorem okv_X1_blockAt : OkV yX1_blockAt := ⟨wd_c98f0593, wd_0dd14daf⟩
theorem ok_X1_blocksEnd : OkY yX1_blocksEnd cX1_blocksEnd 1 (some .int) 0 := ⟨wd_ecd8206f, wd_944cf9c3, by decide +kernel⟩
theorem okv_X1_blocksEnd : OkV yX1_blocksEnd := ⟨wd_02dbd258, wd_4c2258a9⟩
theorem ok_X1_changeSize : OkY yX1_changeSize cX1_changeSize 3 none 1 := ⟨wd_33004528, wd_944cf9c3, by decide +kernel⟩
theorem okv_X1_changeSize : OkV yX1_changeSize := ⟨wd_ce9e8ff6, wd_51ef553b⟩
theorem ok_X1_fits : OkY yX1_fits cX1_fits 5 (some .boolean) 3 := ⟨wd_0ba1feaa, wd_944cf9c3, by decide +kernel⟩
theorem okv_X1_fits : OkV yX1_fits := ⟨wd_b7747b34, wd_2d51e499⟩
theorem ok_X1_init : OkY yX1_init cX1_init 1 none 0 := ⟨wd_7e0acdae, wd_944cf9c3, by decide +kernel⟩
theorem oki_X1_init : Cond.instanceMethod yX1_init ∈ GT ∧ yX1_init.name = "<init>" := ⟨wd_f18773e5, rfl⟩
theorem ok_X1_number : OkY yX1_number cX1_number 3 (some .int) 0 := ⟨wd_fea0140f, wd_944cf9c3, by decide +kernel⟩
theorem okv_X1_number : OkV yX1_number := ⟨wd_fa99e3d3, wd_d744f41b⟩
theorem ok_X1_removeBlock : OkY yX1_removeBlock cX1_removeBlock 4 (some .int) 1 := ⟨wd_32ee8c0c, wd_944cf9c3, by decide +kernel⟩
theorem okv_X1_removeBlock : OkV yX1_removeBlock := ⟨wd_1ee629a3, wd_0a482410⟩
theorem ok_X1_takeInt : OkY yX1_takeInt cX1_takeInt 1 (some .int) 0 := ⟨wd_694c974a, wd_944cf9c3, by decide +kernel⟩
theorem okv_X1_takeInt : OkV yX1_takeInt := ⟨wd_a5e5b0e5, wd_f94b63d4⟩
theorem ok_X2_addFrom : OkY yX2_addFrom cX2_addFrom 5 none 3 := ⟨wd_4e52de8f, wd_79af3f40, by decide +kernel⟩
theorem okv_X2_addFrom : OkV yX2_addFrom := ⟨wd_733e1c0f, wd_48a99232⟩
theorem ok_X2_become : OkY yX2_become cX2_become 2 none 1 := ⟨wd_301d6e87, wd_79af3f40, by decide +kernel⟩
theorem okv_X2_become : OkV yX2_become := ⟨wd_a44d06cd, wd_dc3135e4⟩
theorem ok_X2_bytesInAll : OkY yX2_bytesInAll cX2_bytesInAll 3 (some .int) 0 := ⟨wd_9dd0cdd4, wd_79af3f40, by decide +kernel⟩
theorem okv_X2_bytesInAll : OkV yX2_bytesInAll := ⟨wd_2e96cc72, wd_3dfb2990⟩
theorem ok_X2_init : OkY yX2_init cX2_init 1 none 0 := ⟨wd_4f5457af, wd_79af3f40, by decide +kernel⟩
theorem oki_X2_init : Cond.instanceMethod yX2_init ∈ GT ∧ yX2_init.name = "<init>" := ⟨wd_9024a8b2, rfl⟩
theorem ok_X3_fail : OkY yX3_fail cX3_fail 3 (some .boolean) 2 := ⟨wd_ccfd8ef1, wd_9d546d0b, by decide +kernel⟩
theorem okv_X3_fail : OkV yX3_fail := ⟨wd_bacbae11, wd_8ee38bcf⟩
theorem ok_X3_forget : OkY yX3_forget cX3_forget 1 none 0 := ⟨wd_4cbfea54, wd_9d546d0b, by decide +kernel⟩
theorem okv_X3_forget : OkV yX3_forget := ⟨wd_15926329, wd_a1c6d4a2⟩
theorem ok_X3_init : OkY yX3_init cX3_init 2 none 1 := ⟨wd_82eee424, wd_9d546d0b, by decide +kernel⟩
theorem oki_X3_init : Cond.instanceMethod yX3_init ∈ GT ∧ yX3_init.name = "<init>" := ⟨wd_a345980f, rfl⟩
theorem ok_X3_isKnown : OkY yX3_isKnown cX3_isKnown 1 (some .boolean) 1 := ⟨wd_763d4ebe, wd_9d546d0b, by decide +kernel⟩
theorem oks_X3_isKnown : Cond.static yX3_isKnown ∈ GT := wd_aed7a6b5
theorem ok_X3_isWhole : OkY yX3_isWhole cX3_isWhole 6 (some .boolean) 3 := ⟨wd_8090583c, wd_9d546d0b, by decide +kernel⟩
theorem okv_X3_isWhole : OkV yX3_isWhole := ⟨wd_ed93f0db, wd_7648ca75⟩
theorem ok_X3_lengthIsRight : OkY yX3_lengthIsRight cX3_lengthIsRight 2 (some .boolean) 2 := ⟨wd_ef84d0d9, wd_9d546d0b, by decide +kernel⟩
theorem oks_X3_lengthIsRight : Cond.static yX3_lengthIsRight ∈ GT := wd_1106f180
theorem ok_X3_lengthMayBe : OkY yX3_lengthMayBe cX3_lengthMayBe 4 (some .boolean) 3 := ⟨wd_3084922d, wd_9d546d0b, by decide +kernel⟩
theorem okv_X3_lengthMayBe : OkV yX3_lengthMayBe := ⟨wd_7cc4d8be, wd_85f1e6e8⟩
theorem ok_X3_mayCome : OkY yX3_mayCome cX3_mayCome 4 (some .boolean) 2 := ⟨wd_d0130539, wd_9d546d0b, by decide +kernel⟩
theorem okv_X3_mayCome : OkV yX3_mayCome := ⟨wd_46bb2764, wd_ad4393e5⟩
theorem ok_X3_reaches : OkY yX3_reaches cX3_reaches 5 (some .boolean) 3 := ⟨wd_48fde8f6, wd_9d546d0b, by decide +kernel⟩
theorem okv_X3_reaches : OkV yX3_reaches := ⟨wd_47cd1e34, wd_b212d3c0⟩
theorem ok_X3_read : OkY yX3_read cX3_read 3 (some .boolean) 1 := ⟨wd_46b33484, wd_9d546d0b, by decide +kernel⟩
theorem okv_X3_read : OkV yX3_read := ⟨wd_6f7dbf09, wd_2baccb12⟩
theorem ok_X3_readBlocks : OkY yX3_readBlocks cX3_readBlocks 9 (some .boolean) 3 := ⟨wd_340b372c, wd_9d546d0b, by decide +kernel⟩
theorem okv_X3_readBlocks : OkV yX3_readBlocks := ⟨wd_ea877af5, wd_9d845384⟩
theorem ok_X3_readChunk : OkY yX3_readChunk cX3_readChunk 5 (some .boolean) 2 := ⟨wd_33279b55, wd_9d546d0b, by decide +kernel⟩
theorem okv_X3_readChunk : OkV yX3_readChunk := ⟨wd_23dae009, wd_b1a3db99⟩
theorem ok_X3_readFront : OkY yX3_readFront cX3_readFront 2 (some .boolean) 1 := ⟨wd_13baa642, wd_9d546d0b, by decide +kernel⟩
theorem okv_X3_readFront : OkV yX3_readFront := ⟨wd_586e0a2a, wd_025a4658⟩
theorem ok_X3_readHead : OkY yX3_readHead cX3_readHead 4 (some .boolean) 2 := ⟨wd_c54a36b5, wd_9d546d0b, by decide +kernel⟩
theorem okv_X3_readHead : OkV yX3_readHead := ⟨wd_ecb4064a, wd_37d485f0⟩
theorem ok_X3_readInside : OkY yX3_readInside cX3_readInside 6 (some .boolean) 4 := ⟨wd_711ec561, wd_9d546d0b, by decide +kernel⟩
theorem okv_X3_readInside : OkV yX3_readInside := ⟨wd_d3dc0c73, wd_e5cacae1⟩
theorem ok_X3_readLetters : OkY yX3_readLetters cX3_readLetters 5 (some .boolean) 3 := ⟨wd_b7dbb1f7, wd_9d546d0b, by decide +kernel⟩
theorem okv_X3_readLetters : OkV yX3_readLetters := ⟨wd_c391b65f, wd_e83629c9⟩
theorem ok_X3_readMemory : OkY yX3_readMemory cX3_readMemory 9 (some .boolean) 3 := ⟨wd_e2df4104, wd_9d546d0b, by decide +kernel⟩
theorem okv_X3_readMemory : OkV yX3_readMemory := ⟨wd_e75b29b0, wd_e712216b⟩
theorem ok_X3_readSize : OkY yX3_readSize cX3_readSize 4 (some .boolean) 2 := ⟨wd_36171cff, wd_9d546d0b, by decide +kernel⟩
theorem okv_X3_readSize : OkV yX3_readSize := ⟨wd_11591c3a, wd_2f854dda⟩
theorem ok_X3_readStack : OkY yX3_readStack cX3_readStack 5 (some .boolean) 3 := ⟨wd_deaa9c2b, wd_9d546d0b, by decide +kernel⟩
theorem okv_X3_readStack : OkV yX3_readStack := ⟨wd_fd718f56, wd_087cf5cf⟩
theorem ok_X3_readWholeLength : OkY yX3_readWholeLength cX3_readWholeLength 2 (some .boolean) 1 := ⟨wd_488a0840, wd_9d546d0b, by decide +kernel⟩
theorem okv_X3_readWholeLength : OkV yX3_readWholeLength := ⟨wd_e225e309, wd_80d79248⟩
theorem ok_X3_wasSeen : OkY yX3_wasSeen cX3_wasSeen 2 (some .boolean) 1 := ⟨wd_54e841b3, wd_9d546d0b, by decide +kernel⟩
theorem okv_X3_wasSeen : OkV yX3_wasSeen := ⟨wd_825d31d2, wd_e6080271⟩
theorem ok_X4_allowsSize : OkY yX4_allowsSize cX4_allowsSize 2 (some .boolean) 1 := ⟨wd_e83105ae, wd_2fe9664d, by decide +kernel⟩
theorem okv_X4_allowsSize : OkV yX4_allowsSize := ⟨wd_f194ef57, wd_aab14ce0⟩
theorem ok_X4_inSteps : OkY yX4_inSteps cX4_inSteps 4 (some .boolean) 4 := ⟨wd_5e05de28, wd_2fe9664d, by decide +kernel⟩
theorem oks_X4_inSteps : Cond.static yX4_inSteps ∈ GT := wd_ef705b61
theorem ok_X4_init : OkY yX4_init cX4_init 5 none 3 := ⟨wd_adffa43e, wd_2fe9664d, by decide +kernel⟩
theorem oki_X4_init : Cond.instanceMethod yX4_init ∈ GT ∧ yX4_init.name = "<init>" := ⟨wd_0b1f0df0, rfl⟩
theorem ok_X5_dropEldest : OkY yX5_dropEldest cX5_dropEldest 3 none 0 := ⟨wd_eac9ded3, wd_30ed2848, by decide +kernel⟩
theorem okv_X5_dropEldest : OkV yX5_dropEldest := ⟨wd_4d39cb1a, wd_3465a4ee⟩
theorem ok_X5_init : OkY yX5_init cX5_init 2 none 0 := ⟨wd_1cbb88bc, wd_30ed2848, by decide +kernel⟩
theorem oki_X5_init : Cond.instanceMethod yX5_init ∈ GT ∧ yX5_init.name = "<init>" := ⟨wd_75c96664, rfl⟩
theorem ok_X5_keep : OkY yX5_keep cX5_keep 2 none 1 := ⟨wd_481265b2, wd_30ed2848, by decide +kernel⟩
theorem okv_X5_keep : OkV yX5_keep := ⟨wd_aa0b8131, wd_5707ffe6⟩
theorem ok_X5_takeLatest : OkY yX5_takeLatest cX5_takeLatest 1 (some (.object "GlulxSaves$Machine")) 0 := ⟨wd_dc23aa7d, wd_30ed2848, by decide +kernel⟩
theorem okv_X5_takeLatest : OkV yX5_takeLatest := ⟨wd_512e29a4, wd_94c5f23a⟩
theorem ok_X6_closeChunk : OkY yX6_closeChunk cX6_closeChunk 3 none 2 := ⟨wd_84362f2f, wd_37718511, by decide +kernel⟩
theorem oks_X6_closeChunk : Cond.static yX6_closeChunk ∈ GT := wd_5559bd74
theorem ok_X6_openChunk : OkY yX6_openChunk cX6_openChunk 3 (some .int) 2 := ⟨wd_db476b0b, wd_37718511, by decide +kernel⟩
theorem oks_X6_openChunk : Cond.static yX6_openChunk ∈ GT := wd_3d2429aa
theorem ok_X6_writeBlocks : OkY yX6_writeBlocks cX6_writeBlocks 4 none 2 := ⟨wd_97f223c6, wd_37718511, by decide +kernel⟩
theorem oks_X6_writeBlocks : Cond.static yX6_writeBlocks ∈ GT := wd_4969d534
theorem ok_X6_writeFile : OkY yX6_writeFile cX6_writeFile 4 none 4 := ⟨wd_518229bb, wd_37718511, by decide +kernel⟩
theorem oks_X6_writeFile : Cond.static yX6_writeFile ∈ GT := wd_0f9d27a9
theorem ok_X6_writeHead : OkY yX6_writeHead cX6_writeHead 4 none 2 := ⟨wd_c1f57a86, wd_37718511, by decide +kernel⟩
theorem oks_X6_writeHead : Cond.static yX6_writeHead ∈ GT := wd_58878e03
theorem ok_X6_writeMemory : OkY yX6_writeMemory cX6_writeMemory 7 none 3 := ⟨wd_a5f61bbc, wd_37718511, by decide +kernel⟩
theorem oks_X6_writeMemory : Cond.static yX6_writeMemory ∈ GT := wd_299336a9
theorem ok_X6_writeOthers : OkY yX6_writeOthers cX6_writeOthers 5 none 2 := ⟨wd_f29d45a6, wd_37718511, by decide +kernel⟩
theorem oks_X6_writeOthers : Cond.static yX6_writeOthers ∈ GT := wd_81f46b96
theorem ok_X6_writeStack : OkY yX6_writeStack cX6_writeStack 4 none 2 := ⟨wd_4ab1b125, wd_37718511, by decide +kernel⟩
theorem oks_X6_writeStack : Cond.static yX6_writeStack ∈ GT := wd_8e6156d4
theorem ok_X6_writeZeros : OkY yX6_writeZeros cX6_writeZeros 3 none 2 := ⟨wd_197f6416, wd_37718511, by decide +kernel⟩
theorem oks_X6_writeZeros : Cond.static yX6_writeZeros ∈ GT := wd_3523ea50
theorem ok_X7_alter : OkY yX7_alter cX7_alter 4 (some .int) 2 := ⟨wd_ddce5980, wd_ab600d73, by decide +kernel⟩
theorem okv_X7_alter : OkV yX7_alter := ⟨wd_dc523f62, wd_1f8431f4⟩
theorem ok_X7_at : OkY yX7_at cX7_at 2 (some .int) 1 := ⟨wd_1acf348c, wd_ab600d73, by decide +kernel⟩
theorem okv_X7_at : OkV yX7_at := ⟨wd_c6904ba3, wd_be97f049⟩
theorem ok_X7_block : OkY yX7_block cX7_block 3 (some .int) 2 := ⟨wd_b9b4a4d4, wd_ab600d73, by decide +kernel⟩
theorem okv_X7_block : OkV yX7_block := ⟨wd_adf326d1, wd_89d29514⟩
theorem ok_X7_bringBack : OkY yX7_bringBack cX7_bringBack 2 none 1 := ⟨wd_fd01c5c0, wd_ab600d73, by decide +kernel⟩
theorem okv_X7_bringBack : OkV yX7_bringBack := ⟨wd_6d740bfe, wd_685d691c⟩
theorem ok_X7_count : OkY yX7_count cX7_count 2 (some .int) 1 := ⟨wd_5f5bb3ce, wd_ab600d73, by decide +kernel⟩
theorem okv_X7_count : OkV yX7_count := ⟨wd_8f4fc74c, wd_65637c64⟩
theorem ok_X7_cut : OkY yX7_cut cX7_cut 3 (some .int) 1 := ⟨wd_b7e4da08, wd_ab600d73, by decide +kernel⟩
theorem okv_X7_cut : OkV yX7_cut := ⟨wd_d9b0f2b0, wd_22b8d496⟩
theorem ok_X7_fault : OkY yX7_fault cX7_fault 2 (some .int) 1 := ⟨wd_86626b7d, wd_ab600d73, by decide +kernel⟩
theorem okv_X7_fault : OkV yX7_fault := ⟨wd_d967c277, wd_fa9e6c19⟩
theorem ok_X7_free : OkY yX7_free cX7_free 3 (some .int) 1 := ⟨wd_799fd837, wd_ab600d73, by decide +kernel⟩
theorem okv_X7_free : OkV yX7_free := ⟨wd_33de951b, wd_192e4409⟩
theorem ok_X7_hash : OkY yX7_hash cX7_hash 1 (some .int) 0 := ⟨wd_b463f557, wd_ab600d73, by decide +kernel⟩
theorem okv_X7_hash : OkV yX7_hash := ⟨wd_fe288aa0, wd_fdec35b1⟩
theorem ok_X7_init : OkY yX7_init cX7_init 4 none 3 := ⟨wd_05338e08, wd_ab600d73, by decide +kernel⟩
theorem oki_X7_init : Cond.instanceMethod yX7_init ∈ GT ∧ yX7_init.name = "<init>" := ⟨wd_61caa283, rfl⟩
theorem ok_X7_isBlockLength : OkY yX7_isBlockLength cX7_isBlockLength 1 (some .boolean) 1 := ⟨wd_43bbc95d, wd_ab600d73, by decide +kernel⟩
theorem oks_X7_isBlockLength : Cond.static yX7_isBlockLength ∈ GT := wd_34ecf5e3
theorem ok_X7_isByte : OkY yX7_isByte cX7_isByte 1 (some .boolean) 1 := ⟨wd_4f2366be, wd_ab600d73, by decide +kernel⟩
theorem oks_X7_isByte : Cond.static yX7_isByte ∈ GT := wd_a484c8ee
theorem ok_X7_load : OkY yX7_load cX7_load 1 (some .int) 0 := ⟨wd_b758dee6, wd_ab600d73, by decide +kernel⟩
theorem okv_X7_load : OkV yX7_load := ⟨wd_216fd7fb, wd_fd518ac9⟩
theorem ok_X7_mark : OkY yX7_mark cX7_mark 1 (some .int) 0 := ⟨wd_b8ce7106, wd_ab600d73, by decide +kernel⟩
theorem okv_X7_mark : OkV yX7_mark := ⟨wd_69292c71, wd_4d13bcc5⟩
theorem ok_X7_more : OkY yX7_more cX7_more 5 (some .int) 2 := ⟨wd_2224d2a8, wd_ab600d73, by decide +kernel⟩
theorem okv_X7_more : OkV yX7_more := ⟨wd_56cb65e1, wd_a7abc9e1⟩
theorem ok_X7_peek : OkY yX7_peek cX7_peek 2 (some .int) 1 := ⟨wd_e5df6170, wd_ab600d73, by decide +kernel⟩
theorem okv_X7_peek : OkV yX7_peek := ⟨wd_76e321ca, wd_9cce79c4⟩
theorem ok_X7_poke : OkY yX7_poke cX7_poke 4 (some .int) 2 := ⟨wd_22cffca6, wd_ab600d73, by decide +kernel⟩
theorem okv_X7_poke : OkV yX7_poke := ⟨wd_cb5ef30f, wd_fc441b44⟩
theorem ok_X7_pop : OkY yX7_pop cX7_pop 1 (some .int) 0 := ⟨wd_b969fe7a, wd_ab600d73, by decide +kernel⟩
theorem okv_X7_pop : OkV yX7_pop := ⟨wd_75170aaf, wd_e4200523⟩
theorem ok_X7_protect : OkY yX7_protect cX7_protect 3 (some .int) 2 := ⟨wd_00f8d7b0, wd_ab600d73, by decide +kernel⟩
theorem okv_X7_protect : OkV yX7_protect := ⟨wd_3c94795b, wd_f052b195⟩
theorem ok_X7_push : OkY yX7_push cX7_push 2 (some .int) 1 := ⟨wd_411d1f55, wd_ab600d73, by decide +kernel⟩
theorem okv_X7_push : OkV yX7_push := ⟨wd_f0d8081c, wd_ee241d54⟩
theorem ok_X7_resize : OkY yX7_resize cX7_resize 3 (some .int) 1 := ⟨wd_e293a070, wd_ab600d73, by decide +kernel⟩
theorem okv_X7_resize : OkV yX7_resize := ⟨wd_83625914, wd_6f6f4bcb⟩
theorem ok_X7_restart : OkY yX7_restart cX7_restart 1 (some .int) 0 := ⟨wd_816e9315, wd_ab600d73, by decide +kernel⟩
theorem okv_X7_restart : OkV yX7_restart := ⟨wd_295c1ba6, wd_663e829a⟩
theorem ok_X7_save : OkY yX7_save cX7_save 1 (some .int) 0 := ⟨wd_40346968, wd_ab600d73, by decide +kernel⟩
theorem okv_X7_save : OkV yX7_save := ⟨wd_ccb04588, wd_b40cbaa9⟩
theorem ok_X7_seal : OkY yX7_seal cX7_seal 2 (some .int) 0 := ⟨wd_abd3d40f, wd_ab600d73, by decide +kernel⟩
theorem okv_X7_seal : OkV yX7_seal := ⟨wd_ec5e7e6b, wd_5ac99f8f⟩
theorem ok_X7_undo : OkY yX7_undo cX7_undo 2 (some .int) 0 := ⟨wd_f926e74c, wd_ab600d73, by decide +kernel⟩
theorem okv_X7_undo : OkV yX7_undo := ⟨wd_80caaf0b, wd_1dce9b0d⟩
theorem ok_X8_alter : OkY yX8_alter cX8_alter 3 (some .int) 2 := ⟨wd_770f9312, wd_364e7591, by decide +kernel⟩
theorem okv_X8_alter : OkV yX8_alter := ⟨wd_7f94a9fb, wd_da1bf115⟩
theorem ok_X8_at : OkY yX8_at cX8_at 2 (some .int) 1 := ⟨wd_152d737a, wd_364e7591, by decide +kernel⟩
theorem okv_X8_at : OkV yX8_at := ⟨wd_fef71786, wd_d9bf75f0⟩
theorem ok_X8_block : OkY yX8_block cX8_block 5 (some .int) 2 := ⟨wd_06bfa0f9, wd_364e7591, by decide +kernel⟩
theorem okv_X8_block : OkV yX8_block := ⟨wd_acdc2a31, wd_cffe18ae⟩
theorem ok_X8_chunk : OkY yX8_chunk cX8_chunk 2 (some .int) 1 := ⟨wd_8b6c5d3f, wd_364e7591, by decide +kernel⟩
theorem okv_X8_chunk : OkV yX8_chunk := ⟨wd_f8f07a5d, wd_ba0d5cda⟩
theorem ok_X8_close : OkY yX8_close cX8_close 3 none 1 := ⟨wd_5f388273, wd_364e7591, by decide +kernel⟩
theorem okv_X8_close : OkV yX8_close := ⟨wd_236efa16, wd_869d4337⟩
theorem ok_X8_count : OkY yX8_count cX8_count 4 (some .int) 1 := ⟨wd_4db9c39b, wd_364e7591, by decide +kernel⟩
theorem okv_X8_count : OkV yX8_count := ⟨wd_ee16102d, wd_edd90926⟩
theorem ok_X8_cut : OkY yX8_cut cX8_cut 3 (some .int) 1 := ⟨wd_2aaf8812, wd_364e7591, by decide +kernel⟩
theorem okv_X8_cut : OkV yX8_cut := ⟨wd_4e802a9f, wd_5e9f0b84⟩
theorem ok_X8_fail : OkY yX8_fail cX8_fail 3 none 2 := ⟨wd_42c1baf7, wd_364e7591, by decide +kernel⟩
theorem okv_X8_fail : OkV yX8_fail := ⟨wd_0ad8b160, wd_b5894e48⟩
theorem ok_X8_fault : OkY yX8_fault cX8_fault 2 (some .int) 1 := ⟨wd_3770aad3, wd_364e7591, by decide +kernel⟩
theorem okv_X8_fault : OkV yX8_fault := ⟨wd_2ce55027, wd_5c716bce⟩
theorem ok_X8_fourAt : OkY yX8_fourAt cX8_fourAt 2 (some .int) 1 := ⟨wd_84a97f12, wd_364e7591, by decide +kernel⟩
theorem okv_X8_fourAt : OkV yX8_fourAt := ⟨wd_a4e2f63a, wd_c7d3830f⟩
theorem ok_X8_free : OkY yX8_free cX8_free 5 (some .int) 1 := ⟨wd_1bc71520, wd_364e7591, by decide +kernel⟩
theorem okv_X8_free : OkV yX8_free := ⟨wd_515edaa5, wd_cabfa289⟩
theorem ok_X8_has : OkY yX8_has cX8_has 3 (some .boolean) 1 := ⟨wd_d27aea94, wd_364e7591, by decide +kernel⟩
theorem okv_X8_has : OkV yX8_has := ⟨wd_809d446a, wd_464c993c⟩
theorem ok_X8_hash : OkY yX8_hash cX8_hash 3 (some .int) 0 := ⟨wd_2378a289, wd_364e7591, by decide +kernel⟩
theorem okv_X8_hash : OkV yX8_hash := ⟨wd_7d80349b, wd_3cc3c049⟩
theorem ok_X8_in : OkY yX8_in cX8_in 6 (some .boolean) 3 := ⟨wd_e724aada, wd_364e7591, by decide +kernel⟩
theorem oks_X8_in : Cond.static yX8_in ∈ GT := wd_6fb5df7a
theorem ok_X8_init : OkY yX8_init cX8_init 5 none 3 := ⟨wd_c7150401, wd_364e7591, by decide +kernel⟩
theorem oki_X8_init : Cond.instanceMethod yX8_init ∈ GT ∧ yX8_init.name = "<init>" := ⟨wd_830c0a02, rfl⟩
theorem ok_X8_isGuarded : OkY yX8_isGuarded cX8_isGuarded 2 (some .boolean) 1 := ⟨wd_f36341e6, wd_364e7591, by decide +kernel⟩
theorem okv_X8_isGuarded : OkV yX8_isGuarded := ⟨wd_3603262f, wd_eafd9351⟩
theorem ok_X8_isSize : OkY yX8_isSize cX8_isSize 2 (some .boolean) 1 := ⟨wd_e864190a, wd_364e7591, by decide +kernel⟩
theorem okv_X8_isSize : OkV yX8_isSize := ⟨wd_c1d1c859, wd_7baeead1⟩
theorem ok_X8_letters : OkY yX8_letters cX8_letters 3 none 1 := ⟨wd_9e9ce50b, wd_364e7591, by decide +kernel⟩
theorem okv_X8_letters : OkV yX8_letters := ⟨wd_faff6e42, wd_cd65991b⟩
theorem ok_X8_load : OkY yX8_load cX8_load 3 (some .int) 0 := ⟨wd_2859f3a7, wd_364e7591, by decide +kernel⟩
theorem okv_X8_load : OkV yX8_load := ⟨wd_ed9a04c8, wd_76b0ad6d⟩
theorem ok_X8_mark : OkY yX8_mark cX8_mark 3 (some .int) 0 := ⟨wd_90987b3e, wd_364e7591, by decide +kernel⟩
theorem okv_X8_mark : OkV yX8_mark := ⟨wd_6c817337, wd_c35befcd⟩
theorem ok_X8_more : OkY yX8_more cX8_more 5 (some .int) 2 := ⟨wd_66e87449, wd_364e7591, by decide +kernel⟩
theorem okv_X8_more : OkV yX8_more := ⟨wd_171c7860, wd_df48c1f3⟩
theorem ok_X8_move : OkY yX8_move cX8_move 4 none 2 := ⟨wd_8dc5e442, wd_364e7591, by decide +kernel⟩
theorem okv_X8_move : OkV yX8_move := ⟨wd_f5235d4d, wd_1d155712⟩
theorem ok_X8_original : OkY yX8_original cX8_original 2 (some .int) 1 := ⟨wd_8a7b633d, wd_364e7591, by decide +kernel⟩
theorem okv_X8_original : OkV yX8_original := ⟨wd_34f3aec9, wd_27a369cf⟩
theorem ok_X8_peek : OkY yX8_peek cX8_peek 2 (some .int) 1 := ⟨wd_a51a5cc6, wd_364e7591, by decide +kernel⟩
theorem okv_X8_peek : OkV yX8_peek := ⟨wd_b522e2a7, wd_d214f5a8⟩
theorem ok_X8_poke : OkY yX8_poke cX8_poke 4 (some .int) 2 := ⟨wd_672c8be9, wd_364e7591, by decide +kernel⟩
theorem okv_X8_poke : OkV yX8_poke := ⟨wd_a99df1e5, wd_8033c055⟩
theorem ok_X8_pop : OkY yX8_pop cX8_pop 1 (some .int) 0 := ⟨wd_0cfb73a9, wd_364e7591, by decide +kernel⟩
theorem okv_X8_pop : OkV yX8_pop := ⟨wd_1240da90, wd_17be1d9c⟩
theorem ok_X8_protect : OkY yX8_protect cX8_protect 3 (some .int) 2 := ⟨wd_75711596, wd_364e7591, by decide +kernel⟩
theorem okv_X8_protect : OkV yX8_protect := ⟨wd_e666fb17, wd_dcdb39cf⟩
theorem ok_X8_push : OkY yX8_push cX8_push 2 (some .int) 1 := ⟨wd_64249762, wd_364e7591, by decide +kernel⟩
theorem okv_X8_push : OkV yX8_push := ⟨wd_e8df3b35, wd_ba75b294⟩
theorem ok_X8_put : OkY yX8_put cX8_put 2 none 1 := ⟨wd_4e4dd533, wd_364e7591, by decide +kernel⟩
theorem okv_X8_put : OkV yX8_put := ⟨wd_2e466e69, wd_6bec01bc⟩
theorem ok_X8_putAt : OkY yX8_putAt cX8_putAt 4 none 2 := ⟨wd_a6a55673, wd_364e7591, by decide +kernel⟩
theorem okv_X8_putAt : OkV yX8_putAt := ⟨wd_f0967212, wd_7fccbdbd⟩
theorem ok_X8_putFour : OkY yX8_putFour cX8_putFour 2 none 1 := ⟨wd_540282b3, wd_364e7591, by decide +kernel⟩
theorem okv_X8_putFour : OkV yX8_putFour := ⟨wd_e13a4146, wd_4bc456d2⟩
theorem ok_X8_putMemory : OkY yX8_putMemory cX8_putMemory 6 none 0 := ⟨wd_365c9a2a, wd_364e7591, by decide +kernel⟩
theorem okv_X8_putMemory : OkV yX8_putMemory := ⟨wd_24c29710, wd_102bab9b⟩
theorem ok_X8_readAll : OkY yX8_readAll cX8_readAll 1 none 0 := ⟨wd_a3a09c4a, wd_364e7591, by decide +kernel⟩
theorem okv_X8_readAll : OkV yX8_readAll := ⟨wd_370c4d34, wd_b0551994⟩
theorem ok_X8_readBlocks : OkY yX8_readBlocks cX8_readBlocks 5 none 1 := ⟨wd_c459823a, wd_364e7591, by decide +kernel⟩
theorem okv_X8_readBlocks : OkV yX8_readBlocks := ⟨wd_23816775, wd_1d1e053c⟩
theorem ok_X8_readChunk : OkY yX8_readChunk cX8_readChunk 7 none 0 := ⟨wd_897844e5, wd_364e7591, by decide +kernel⟩
theorem okv_X8_readChunk : OkV yX8_readChunk := ⟨wd_b7e7f910, wd_39adb2b4⟩
theorem ok_X8_readHead : OkY yX8_readHead cX8_readHead 3 none 1 := ⟨wd_050fec38, wd_364e7591, by decide +kernel⟩
theorem okv_X8_readHead : OkV yX8_readHead := ⟨wd_512bab3c, wd_f9769d78⟩
theorem ok_X8_readMemory : OkY yX8_readMemory cX8_readMemory 5 none 1 := ⟨wd_4ef58eff, wd_364e7591, by decide +kernel⟩
theorem okv_X8_readMemory : OkV yX8_readMemory := ⟨wd_9315dff3, wd_93b72bd8⟩
theorem ok_X8_readStack : OkY yX8_readStack cX8_readStack 3 none 1 := ⟨wd_95947439, wd_364e7591, by decide +kernel⟩
theorem okv_X8_readStack : OkV yX8_readStack := ⟨wd_f582e481, wd_273374b8⟩
theorem ok_X8_resize : OkY yX8_resize cX8_resize 4 (some .int) 1 := ⟨wd_10c05404, wd_364e7591, by decide +kernel⟩
theorem okv_X8_resize : OkV yX8_resize := ⟨wd_3faecc0a, wd_83c11319⟩
theorem ok_X8_restart : OkY yX8_restart cX8_restart 2 (some .int) 0 := ⟨wd_64a12530, wd_364e7591, by decide +kernel⟩
theorem okv_X8_restart : OkV yX8_restart := ⟨wd_44b6f76b, wd_67232691⟩
theorem ok_X8_save : OkY yX8_save cX8_save 4 (some .int) 0 := ⟨wd_67b6c459, wd_364e7591, by decide +kernel⟩
theorem okv_X8_save : OkV yX8_save := ⟨wd_642ba67c, wd_28a94f03⟩
theorem ok_X8_seal : OkY yX8_seal cX8_seal 3 (some .int) 0 := ⟨wd_ba80cc8e, wd_364e7591, by decide +kernel⟩
theorem okv_X8_seal : OkV yX8_seal := ⟨wd_dfcb6716, wd_09bb08f8⟩
theorem ok_X8_thrown : OkY yX8_thrown cX8_thrown 1 (some .int) 0 := ⟨wd_036ca101, wd_364e7591, by decide +kernel⟩
theorem okv_X8_thrown : OkV yX8_thrown := ⟨wd_79bf46f5, wd_f761ba5c⟩
theorem ok_X8_undo : OkY yX8_undo cX8_undo 3 (some .int) 0 := ⟨wd_28aa343d, wd_364e7591, by decide +kernel⟩
theorem okv_X8_undo : OkV yX8_undo := ⟨wd_57aa4b16, wd_80ebbd60⟩
