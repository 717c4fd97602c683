theorem dX0_init_0 : decode cX0_init 0 = .ok (.aload_n 0, 1) := by decide +kernel
theorem dX0_init_1 : decode cX0_init 1 = .ok (.invokespecial 3, 3) := by decide +kernel
theorem dX0_init_4 : decode cX0_init 4 = .ok (.aload_n 0, 1) := by decide +kernel
theorem dX0_init_5 : decode cX0_init 5 = .ok (.sipush 1200, 3) := by decide +kernel
theorem dX0_init_8 : decode cX0_init 8 = .ok (.newarray .int, 2) := by decide +kernel
theorem dX0_init_10 : decode cX0_init 10 = .ok (.putfield 9, 3) := by decide +kernel
theorem dX0_init_13 : decode cX0_init 13 = .ok (.aload_n 0, 1) := by decide +kernel
theorem dX0_init_14 : decode cX0_init 14 = .ok (.iconst 0, 1) := by decide +kernel
theorem dX0_init_15 : decode cX0_init 15 = .ok (.putfield 15, 3) := by decide +kernel
theorem dX0_init_18 : decode cX0_init 18 = .ok (.aload_n 0, 1) := by decide +kernel
theorem dX0_init_19 : decode cX0_init 19 = .ok (.iconst 0, 1) := by decide +kernel
theorem dX0_init_20 : decode cX0_init 20 = .ok (.putfield 19, 3) := by decide +kernel
theorem dX0_init_23 : decode cX0_init 23 = .ok (.return_, 1) := by decide +kernel
theorem dX0_clear_0 : decode cX0_clear 0 = .ok (.aload_n 0, 1) := by decide +kernel
theorem dX0_clear_1 : decode cX0_clear 1 = .ok (.iconst 0, 1) := by decide +kernel
theorem dX0_clear_2 : decode cX0_clear 2 = .ok (.putfield 15, 3) := by decide +kernel
theorem dX0_clear_5 : decode cX0_clear 5 = .ok (.aload_n 0, 1) := by decide +kernel
theorem dX0_clear_6 : decode cX0_clear 6 = .ok (.iconst 0, 1) := by decide +kernel
theorem dX0_clear_7 : decode cX0_clear 7 = .ok (.putfield 19, 3) := by decide +kernel
theorem dX0_clear_10 : decode cX0_clear 10 = .ok (.return_, 1) := by decide +kernel
theorem dX0_become_0 : decode cX0_become 0 = .ok (.aload_n 1, 1) := by decide +kernel
theorem dX0_become_1 : decode cX0_become 1 = .ok (.getfield 9, 3) := by decide +kernel
theorem dX0_become_4 : decode cX0_become 4 = .ok (.iconst 0, 1) := by decide +kernel
theorem dX0_become_5 : decode cX0_become 5 = .ok (.aload_n 0, 1) := by decide +kernel
theorem dX0_become_6 : decode cX0_become 6 = .ok (.getfield 9, 3) := by decide +kernel
theorem dX0_become_9 : decode cX0_become 9 = .ok (.iconst 0, 1) := by decide +kernel
theorem dX0_become_10 : decode cX0_become 10 = .ok (.sipush 1200, 3) := by decide +kernel
theorem dX0_become_13 : decode cX0_become 13 = .ok (.invokestatic 23, 3) := by decide +kernel
theorem dX0_become_16 : decode cX0_become 16 = .ok (.aload_n 0, 1) := by decide +kernel
theorem dX0_become_17 : decode cX0_become 17 = .ok (.aload_n 1, 1) := by decide +kernel
theorem dX0_become_18 : decode cX0_become 18 = .ok (.getfield 15, 3) := by decide +kernel
theorem dX0_become_21 : decode cX0_become 21 = .ok (.putfield 15, 3) := by decide +kernel
theorem dX0_become_24 : decode cX0_become 24 = .ok (.return_, 1) := by decide +kernel
theorem dX0_holds_0 : decode cX0_holds 0 = .ok (.iload_n 1, 1) := by decide +kernel
theorem dX0_holds_1 : decode cX0_holds 1 = .ok (.ifCond .lt 26, 3) := by decide +kernel
theorem dX0_holds_4 : decode cX0_holds 4 = .ok (.lload_n 2, 1) := by decide +kernel
theorem dX0_holds_5 : decode cX0_holds 5 = .ok (.lconst 0, 1) := by decide +kernel
theorem dX0_holds_6 : decode cX0_holds 6 = .ok (.lcmp, 1) := by decide +kernel
theorem dX0_holds_7 : decode cX0_holds 7 = .ok (.ifCond .lt 20, 3) := by decide +kernel
theorem dX0_holds_10 : decode cX0_holds 10 = .ok (.iload_n 1, 1) := by decide +kernel
theorem dX0_holds_11 : decode cX0_holds 11 = .ok (.i2l, 1) := by decide +kernel
theorem dX0_holds_12 : decode cX0_holds 12 = .ok (.lload_n 2, 1) := by decide +kernel
theorem dX0_holds_13 : decode cX0_holds 13 = .ok (.ladd, 1) := by decide +kernel
theorem dX0_holds_14 : decode cX0_holds 14 = .ok (.aload_n 0, 1) := by decide +kernel
theorem dX0_holds_15 : decode cX0_holds 15 = .ok (.getfield 15, 3) := by decide +kernel
theorem dX0_holds_18 : decode cX0_holds 18 = .ok (.i2l, 1) := by decide +kernel
theorem dX0_holds_19 : decode cX0_holds 19 = .ok (.lcmp, 1) := by decide +kernel
theorem dX0_holds_20 : decode cX0_holds 20 = .ok (.ifCond .gt 7, 3) := by decide +kernel
theorem dX0_holds_23 : decode cX0_holds 23 = .ok (.iconst 1, 1) := by decide +kernel
theorem dX0_holds_24 : decode cX0_holds 24 = .ok (.goto 4, 3) := by decide +kernel
theorem dX0_holds_27 : decode cX0_holds 27 = .ok (.iconst 0, 1) := by decide +kernel
theorem dX0_holds_28 : decode cX0_holds 28 = .ok (.ireturn, 1) := by decide +kernel
theorem dX0_byteAt_0 : decode cX0_byteAt 0 = .ok (.iload_n 1, 1) := by decide +kernel
theorem dX0_byteAt_1 : decode cX0_byteAt 1 = .ok (.ifCond .lt 19, 3) := by decide +kernel
theorem dX0_byteAt_4 : decode cX0_byteAt 4 = .ok (.iload_n 1, 1) := by decide +kernel
theorem dX0_byteAt_5 : decode cX0_byteAt 5 = .ok (.sipush 1200, 3) := by decide +kernel
theorem dX0_byteAt_8 : decode cX0_byteAt 8 = .ok (.if_icmp .ge 12, 3) := by decide +kernel
theorem dX0_byteAt_11 : decode cX0_byteAt 11 = .ok (.aload_n 0, 1) := by decide +kernel
theorem dX0_byteAt_12 : decode cX0_byteAt 12 = .ok (.getfield 9, 3) := by decide +kernel
theorem dX0_byteAt_15 : decode cX0_byteAt 15 = .ok (.iload_n 1, 1) := by decide +kernel
theorem dX0_byteAt_16 : decode cX0_byteAt 16 = .ok (.iaload, 1) := by decide +kernel
theorem dX0_byteAt_17 : decode cX0_byteAt 17 = .ok (.goto 4, 3) := by decide +kernel
theorem dX0_byteAt_20 : decode cX0_byteAt 20 = .ok (.iconst 0, 1) := by decide +kernel
theorem dX0_byteAt_21 : decode cX0_byteAt 21 = .ok (.ireturn, 1) := by decide +kernel
theorem dX0_fourAt_0 : decode cX0_fourAt 0 = .ok (.iload_n 1, 1) := by decide +kernel
theorem dX0_fourAt_1 : decode cX0_fourAt 1 = .ok (.ifCond .lt 10, 3) := by decide +kernel
theorem dX0_fourAt_4 : decode cX0_fourAt 4 = .ok (.iload_n 1, 1) := by decide +kernel
theorem dX0_fourAt_5 : decode cX0_fourAt 5 = .ok (.sipush 1196, 3) := by decide +kernel
theorem dX0_fourAt_8 : decode cX0_fourAt 8 = .ok (.if_icmp .le 5, 3) := by decide +kernel
theorem dX0_fourAt_11 : decode cX0_fourAt 11 = .ok (.iconst 0, 1) := by decide +kernel
theorem dX0_fourAt_12 : decode cX0_fourAt 12 = .ok (.ireturn, 1) := by decide +kernel
theorem dX0_fourAt_13 : decode cX0_fourAt 13 = .ok (.aload_n 0, 1) := by decide +kernel
theorem dX0_fourAt_14 : decode cX0_fourAt 14 = .ok (.getfield 9, 3) := by decide +kernel
theorem dX0_fourAt_17 : decode cX0_fourAt 17 = .ok (.iload_n 1, 1) := by decide +kernel
theorem dX0_fourAt_18 : decode cX0_fourAt 18 = .ok (.iaload, 1) := by decide +kernel
theorem dX0_fourAt_19 : decode cX0_fourAt 19 = .ok (.bipush 24, 2) := by decide +kernel
theorem dX0_fourAt_21 : decode cX0_fourAt 21 = .ok (.ishl, 1) := by decide +kernel
theorem dX0_fourAt_22 : decode cX0_fourAt 22 = .ok (.aload_n 0, 1) := by decide +kernel
theorem dX0_fourAt_23 : decode cX0_fourAt 23 = .ok (.getfield 9, 3) := by decide +kernel
theorem dX0_fourAt_26 : decode cX0_fourAt 26 = .ok (.iload_n 1, 1) := by decide +kernel
theorem dX0_fourAt_27 : decode cX0_fourAt 27 = .ok (.iconst 1, 1) := by decide +kernel
theorem dX0_fourAt_28 : decode cX0_fourAt 28 = .ok (.iadd, 1) := by decide +kernel
theorem dX0_fourAt_29 : decode cX0_fourAt 29 = .ok (.iaload, 1) := by decide +kernel
theorem dX0_fourAt_30 : decode cX0_fourAt 30 = .ok (.bipush 16, 2) := by decide +kernel
theorem dX0_fourAt_32 : decode cX0_fourAt 32 = .ok (.ishl, 1) := by decide +kernel
theorem dX0_fourAt_33 : decode cX0_fourAt 33 = .ok (.ior, 1) := by decide +kernel
theorem dX0_fourAt_34 : decode cX0_fourAt 34 = .ok (.aload_n 0, 1) := by decide +kernel
theorem dX0_fourAt_35 : decode cX0_fourAt 35 = .ok (.getfield 9, 3) := by decide +kernel
theorem dX0_fourAt_38 : decode cX0_fourAt 38 = .ok (.iload_n 1, 1) := by decide +kernel
theorem dX0_fourAt_39 : decode cX0_fourAt 39 = .ok (.iconst 2, 1) := by decide +kernel
theorem dX0_fourAt_40 : decode cX0_fourAt 40 = .ok (.iadd, 1) := by decide +kernel
theorem dX0_fourAt_41 : decode cX0_fourAt 41 = .ok (.iaload, 1) := by decide +kernel
theorem dX0_fourAt_42 : decode cX0_fourAt 42 = .ok (.bipush 8, 2) := by decide +kernel
theorem dX0_fourAt_44 : decode cX0_fourAt 44 = .ok (.ishl, 1) := by decide +kernel
theorem dX0_fourAt_45 : decode cX0_fourAt 45 = .ok (.ior, 1) := by decide +kernel
theorem dX0_fourAt_46 : decode cX0_fourAt 46 = .ok (.aload_n 0, 1) := by decide +kernel
theorem dX0_fourAt_47 : decode cX0_fourAt 47 = .ok (.getfield 9, 3) := by decide +kernel
theorem dX0_fourAt_50 : decode cX0_fourAt 50 = .ok (.iload_n 1, 1) := by decide +kernel
theorem dX0_fourAt_51 : decode cX0_fourAt 51 = .ok (.iconst 3, 1) := by decide +kernel
theorem dX0_fourAt_52 : decode cX0_fourAt 52 = .ok (.iadd, 1) := by decide +kernel
theorem dX0_fourAt_53 : decode cX0_fourAt 53 = .ok (.iaload, 1) := by decide +kernel
theorem dX0_fourAt_54 : decode cX0_fourAt 54 = .ok (.ior, 1) := by decide +kernel
theorem dX0_fourAt_55 : decode cX0_fourAt 55 = .ok (.ireturn, 1) := by decide +kernel
theorem dX0_setByte_0 : decode cX0_setByte 0 = .ok (.iload_n 1, 1) := by decide +kernel
theorem dX0_setByte_1 : decode cX0_setByte 1 = .ok (.ifCond .lt 17, 3) := by decide +kernel
theorem dX0_setByte_4 : decode cX0_setByte 4 = .ok (.iload_n 1, 1) := by decide +kernel
theorem dX0_setByte_5 : decode cX0_setByte 5 = .ok (.sipush 1200, 3) := by decide +kernel
theorem dX0_setByte_8 : decode cX0_setByte 8 = .ok (.if_icmp .ge 10, 3) := by decide +kernel
theorem dX0_setByte_11 : decode cX0_setByte 11 = .ok (.aload_n 0, 1) := by decide +kernel
theorem dX0_setByte_12 : decode cX0_setByte 12 = .ok (.getfield 9, 3) := by decide +kernel
theorem dX0_setByte_15 : decode cX0_setByte 15 = .ok (.iload_n 1, 1) := by decide +kernel
theorem dX0_setByte_16 : decode cX0_setByte 16 = .ok (.iload_n 2, 1) := by decide +kernel
theorem dX0_setByte_17 : decode cX0_setByte 17 = .ok (.iastore, 1) := by decide +kernel
theorem dX0_setByte_18 : decode cX0_setByte 18 = .ok (.return_, 1) := by decide +kernel
theorem dX0_setFour_0 : decode cX0_setFour 0 = .ok (.iconst 0, 1) := by decide +kernel
theorem dX0_setFour_1 : decode cX0_setFour 1 = .ok (.istore_n 3, 1) := by decide +kernel
theorem dX0_setFour_2 : decode cX0_setFour 2 = .ok (.iload_n 3, 1) := by decide +kernel
theorem dX0_setFour_3 : decode cX0_setFour 3 = .ok (.iconst 4, 1) := by decide +kernel
theorem dX0_setFour_4 : decode cX0_setFour 4 = .ok (.if_icmp .ge 29, 3) := by decide +kernel
theorem dX0_setFour_7 : decode cX0_setFour 7 = .ok (.aload_n 0, 1) := by decide +kernel
theorem dX0_setFour_8 : decode cX0_setFour 8 = .ok (.iload_n 1, 1) := by decide +kernel
theorem dX0_setFour_9 : decode cX0_setFour 9 = .ok (.iload_n 3, 1) := by decide +kernel
theorem dX0_setFour_10 : decode cX0_setFour 10 = .ok (.iadd, 1) := by decide +kernel
theorem dX0_setFour_11 : decode cX0_setFour 11 = .ok (.iload_n 2, 1) := by decide +kernel
theorem dX0_setFour_12 : decode cX0_setFour 12 = .ok (.bipush 24, 2) := by decide +kernel
theorem dX0_setFour_14 : decode cX0_setFour 14 = .ok (.bipush 8, 2) := by decide +kernel
theorem dX0_setFour_16 : decode cX0_setFour 16 = .ok (.iload_n 3, 1) := by decide +kernel
theorem dX0_setFour_17 : decode cX0_setFour 17 = .ok (.imul, 1) := by decide +kernel
theorem dX0_setFour_18 : decode cX0_setFour 18 = .ok (.isub, 1) := by decide +kernel
theorem dX0_setFour_19 : decode cX0_setFour 19 = .ok (.iushr, 1) := by decide +kernel
theorem dX0_setFour_20 : decode cX0_setFour 20 = .ok (.sipush 255, 3) := by decide +kernel
theorem dX0_setFour_23 : decode cX0_setFour 23 = .ok (.iand, 1) := by decide +kernel
theorem dX0_setFour_24 : decode cX0_setFour 24 = .ok (.invokevirtual 29, 3) := by decide +kernel
theorem dX0_setFour_27 : decode cX0_setFour 27 = .ok (.iinc 3 1, 3) := by decide +kernel
theorem dX0_setFour_30 : decode cX0_setFour 30 = .ok (.goto (-28), 3) := by decide +kernel
theorem dX0_setFour_33 : decode cX0_setFour 33 = .ok (.return_, 1) := by decide +kernel
theorem dX0_add_0 : decode cX0_add 0 = .ok (.aload_n 0, 1) := by decide +kernel
theorem dX0_add_1 : decode cX0_add 1 = .ok (.getfield 15, 3) := by decide +kernel
theorem dX0_add_4 : decode cX0_add 4 = .ok (.sipush 1200, 3) := by decide +kernel
theorem dX0_add_7 : decode cX0_add 7 = .ok (.if_icmp .lt 9, 3) := by decide +kernel
theorem dX0_add_10 : decode cX0_add 10 = .ok (.aload_n 0, 1) := by decide +kernel
theorem dX0_add_11 : decode cX0_add 11 = .ok (.iconst 1, 1) := by decide +kernel
theorem dX0_add_12 : decode cX0_add 12 = .ok (.putfield 19, 3) := by decide +kernel
theorem dX0_add_15 : decode cX0_add 15 = .ok (.return_, 1) := by decide +kernel
theorem dX0_add_16 : decode cX0_add 16 = .ok (.aload_n 0, 1) := by decide +kernel
theorem dX0_add_17 : decode cX0_add 17 = .ok (.aload_n 0, 1) := by decide +kernel
theorem dX0_add_18 : decode cX0_add 18 = .ok (.getfield 15, 3) := by decide +kernel
theorem dX0_add_21 : decode cX0_add 21 = .ok (.iload_n 1, 1) := by decide +kernel
theorem dX0_add_22 : decode cX0_add 22 = .ok (.invokevirtual 29, 3) := by decide +kernel
theorem dX0_add_25 : decode cX0_add 25 = .ok (.aload_n 0, 1) := by decide +kernel
theorem dX0_add_26 : decode cX0_add 26 = .ok (.dup, 1) := by decide +kernel
theorem dX0_add_27 : decode cX0_add 27 = .ok (.getfield 15, 3) := by decide +kernel
theorem dX0_add_30 : decode cX0_add 30 = .ok (.iconst 1, 1) := by decide +kernel
theorem dX0_add_31 : decode cX0_add 31 = .ok (.iadd, 1) := by decide +kernel
theorem dX0_add_32 : decode cX0_add 32 = .ok (.putfield 15, 3) := by decide +kernel
theorem dX0_add_35 : decode cX0_add 35 = .ok (.return_, 1) := by decide +kernel
theorem dX0_addFour_0 : decode cX0_addFour 0 = .ok (.iconst 0, 1) := by decide +kernel
theorem dX0_addFour_1 : decode cX0_addFour 1 = .ok (.istore_n 2, 1) := by decide +kernel
theorem dX0_addFour_2 : decode cX0_addFour 2 = .ok (.iload_n 2, 1) := by decide +kernel
theorem dX0_addFour_3 : decode cX0_addFour 3 = .ok (.iconst 4, 1) := by decide +kernel
theorem dX0_addFour_4 : decode cX0_addFour 4 = .ok (.if_icmp .ge 26, 3) := by decide +kernel
theorem dX0_addFour_7 : decode cX0_addFour 7 = .ok (.aload_n 0, 1) := by decide +kernel
theorem dX0_addFour_8 : decode cX0_addFour 8 = .ok (.iload_n 1, 1) := by decide +kernel
theorem dX0_addFour_9 : decode cX0_addFour 9 = .ok (.bipush 24, 2) := by decide +kernel
theorem dX0_addFour_11 : decode cX0_addFour 11 = .ok (.bipush 8, 2) := by decide +kernel
theorem dX0_addFour_13 : decode cX0_addFour 13 = .ok (.iload_n 2, 1) := by decide +kernel
theorem dX0_addFour_14 : decode cX0_addFour 14 = .ok (.imul, 1) := by decide +kernel
theorem dX0_addFour_15 : decode cX0_addFour 15 = .ok (.isub, 1) := by decide +kernel
theorem dX0_addFour_16 : decode cX0_addFour 16 = .ok (.iushr, 1) := by decide +kernel
theorem dX0_addFour_17 : decode cX0_addFour 17 = .ok (.sipush 255, 3) := by decide +kernel
theorem dX0_addFour_20 : decode cX0_addFour 20 = .ok (.iand, 1) := by decide +kernel
theorem dX0_addFour_21 : decode cX0_addFour 21 = .ok (.invokevirtual 33, 3) := by decide +kernel
theorem dX0_addFour_24 : decode cX0_addFour 24 = .ok (.iinc 2 1, 3) := by decide +kernel
theorem dX0_addFour_27 : decode cX0_addFour 27 = .ok (.goto (-25), 3) := by decide +kernel
theorem dX0_addFour_30 : decode cX0_addFour 30 = .ok (.return_, 1) := by decide +kernel
theorem dX1_init_0 : decode cX1_init 0 = .ok (.aload_n 0, 1) := by decide +kernel
theorem dX1_init_1 : decode cX1_init 1 = .ok (.invokespecial 3, 3) := by decide +kernel
theorem dX1_init_4 : decode cX1_init 4 = .ok (.aload_n 0, 1) := by decide +kernel
theorem dX1_init_5 : decode cX1_init 5 = .ok (.sipush 512, 3) := by decide +kernel
theorem dX1_init_8 : decode cX1_init 8 = .ok (.newarray .int, 2) := by decide +kernel
theorem dX1_init_10 : decode cX1_init 10 = .ok (.putfield 9, 3) := by decide +kernel
theorem dX1_init_13 : decode cX1_init 13 = .ok (.aload_n 0, 1) := by decide +kernel
theorem dX1_init_14 : decode cX1_init 14 = .ok (.iconst 0, 1) := by decide +kernel
theorem dX1_init_15 : decode cX1_init 15 = .ok (.putfield 15, 3) := by decide +kernel
theorem dX1_init_18 : decode cX1_init 18 = .ok (.aload_n 0, 1) := by decide +kernel
theorem dX1_init_19 : decode cX1_init 19 = .ok (.bipush 40, 2) := by decide +kernel
theorem dX1_init_21 : decode cX1_init 21 = .ok (.newarray .int, 2) := by decide +kernel
theorem dX1_init_23 : decode cX1_init 23 = .ok (.putfield 19, 3) := by decide +kernel
theorem dX1_init_26 : decode cX1_init 26 = .ok (.aload_n 0, 1) := by decide +kernel
theorem dX1_init_27 : decode cX1_init 27 = .ok (.iconst 0, 1) := by decide +kernel
theorem dX1_init_28 : decode cX1_init 28 = .ok (.putfield 22, 3) := by decide +kernel
theorem dX1_init_31 : decode cX1_init 31 = .ok (.aload_n 0, 1) := by decide +kernel
theorem dX1_init_32 : decode cX1_init 32 = .ok (.bipush 8, 2) := by decide +kernel
theorem dX1_init_34 : decode cX1_init 34 = .ok (.newarray .int, 2) := by decide +kernel
theorem dX1_init_36 : decode cX1_init 36 = .ok (.putfield 25, 3) := by decide +kernel
theorem dX1_init_39 : decode cX1_init 39 = .ok (.aload_n 0, 1) := by decide +kernel
theorem dX1_init_40 : decode cX1_init 40 = .ok (.bipush 8, 2) := by decide +kernel
theorem dX1_init_42 : decode cX1_init 42 = .ok (.newarray .int, 2) := by decide +kernel
theorem dX1_init_44 : decode cX1_init 44 = .ok (.putfield 28, 3) := by decide +kernel
theorem dX1_init_47 : decode cX1_init 47 = .ok (.aload_n 0, 1) := by decide +kernel
theorem dX1_init_48 : decode cX1_init 48 = .ok (.iconst 0, 1) := by decide +kernel
theorem dX1_init_49 : decode cX1_init 49 = .ok (.putfield 31, 3) := by decide +kernel
theorem dX1_init_52 : decode cX1_init 52 = .ok (.return_, 1) := by decide +kernel
theorem dX1_begin_0 : decode cX1_begin 0 = .ok (.aload_n 1, 1) := by decide +kernel
theorem dX1_begin_1 : decode cX1_begin 1 = .ok (.getfield 34, 3) := by decide +kernel
theorem dX1_begin_4 : decode cX1_begin 4 = .ok (.iconst 0, 1) := by decide +kernel
theorem dX1_begin_5 : decode cX1_begin 5 = .ok (.aload_n 0, 1) := by decide +kernel
theorem dX1_begin_6 : decode cX1_begin 6 = .ok (.getfield 9, 3) := by decide +kernel
theorem dX1_begin_9 : decode cX1_begin 9 = .ok (.iconst 0, 1) := by decide +kernel
theorem dX1_begin_10 : decode cX1_begin 10 = .ok (.sipush 512, 3) := by decide +kernel
theorem dX1_begin_13 : decode cX1_begin 13 = .ok (.invokestatic 39, 3) := by decide +kernel
theorem dX1_begin_16 : decode cX1_begin 16 = .ok (.aload_n 0, 1) := by decide +kernel
theorem dX1_begin_17 : decode cX1_begin 17 = .ok (.aload_n 1, 1) := by decide +kernel
theorem dX1_begin_18 : decode cX1_begin 18 = .ok (.getfield 45, 3) := by decide +kernel
theorem dX1_begin_21 : decode cX1_begin 21 = .ok (.putfield 15, 3) := by decide +kernel
theorem dX1_begin_24 : decode cX1_begin 24 = .ok (.aload_n 0, 1) := by decide +kernel
theorem dX1_begin_25 : decode cX1_begin 25 = .ok (.iconst 0, 1) := by decide +kernel
theorem dX1_begin_26 : decode cX1_begin 26 = .ok (.putfield 22, 3) := by decide +kernel
theorem dX1_begin_29 : decode cX1_begin 29 = .ok (.aload_n 0, 1) := by decide +kernel
theorem dX1_begin_30 : decode cX1_begin 30 = .ok (.iconst 0, 1) := by decide +kernel
theorem dX1_begin_31 : decode cX1_begin 31 = .ok (.putfield 31, 3) := by decide +kernel
theorem dX1_begin_34 : decode cX1_begin 34 = .ok (.return_, 1) := by decide +kernel
theorem dX1_become_0 : decode cX1_become 0 = .ok (.aload_n 0, 1) := by decide +kernel
theorem dX1_become_1 : decode cX1_become 1 = .ok (.getfield 15, 3) := by decide +kernel
theorem dX1_become_4 : decode cX1_become 4 = .ok (.aload_n 1, 1) := by decide +kernel
theorem dX1_become_5 : decode cX1_become 5 = .ok (.getfield 15, 3) := by decide +kernel
theorem dX1_become_8 : decode cX1_become 8 = .ok (.invokestatic 48, 3) := by decide +kernel
theorem dX1_become_11 : decode cX1_become 11 = .ok (.istore 4, 2) := by decide +kernel
theorem dX1_become_13 : decode cX1_become 13 = .ok (.iconst 0, 1) := by decide +kernel
theorem dX1_become_14 : decode cX1_become 14 = .ok (.istore 5, 2) := by decide +kernel
theorem dX1_become_16 : decode cX1_become 16 = .ok (.iload 5, 2) := by decide +kernel
theorem dX1_become_18 : decode cX1_become 18 = .ok (.aload_n 1, 1) := by decide +kernel
theorem dX1_become_19 : decode cX1_become 19 = .ok (.getfield 15, 3) := by decide +kernel
theorem dX1_become_22 : decode cX1_become 22 = .ok (.if_icmp .ge 62, 3) := by decide +kernel
theorem dX1_become_25 : decode cX1_become 25 = .ok (.iload 5, 2) := by decide +kernel
theorem dX1_become_27 : decode cX1_become 27 = .ok (.sipush 512, 3) := by decide +kernel
theorem dX1_become_30 : decode cX1_become 30 = .ok (.if_icmp .ge 54, 3) := by decide +kernel
theorem dX1_become_33 : decode cX1_become 33 = .ok (.iload 5, 2) := by decide +kernel
theorem dX1_become_35 : decode cX1_become 35 = .ok (.iload_n 2, 1) := by decide +kernel
theorem dX1_become_36 : decode cX1_become 36 = .ok (.if_icmp .lt 20, 3) := by decide +kernel
theorem dX1_become_39 : decode cX1_become 39 = .ok (.iload 5, 2) := by decide +kernel
theorem dX1_become_41 : decode cX1_become 41 = .ok (.iload_n 3, 1) := by decide +kernel
theorem dX1_become_42 : decode cX1_become 42 = .ok (.if_icmp .ge 14, 3) := by decide +kernel
theorem dX1_become_45 : decode cX1_become 45 = .ok (.iload 5, 2) := by decide +kernel
theorem dX1_become_47 : decode cX1_become 47 = .ok (.iload 4, 2) := by decide +kernel
theorem dX1_become_49 : decode cX1_become 49 = .ok (.if_icmp .ge 7, 3) := by decide +kernel
theorem dX1_become_52 : decode cX1_become 52 = .ok (.iconst 1, 1) := by decide +kernel
theorem dX1_become_53 : decode cX1_become 53 = .ok (.goto 4, 3) := by decide +kernel
theorem dX1_become_56 : decode cX1_become 56 = .ok (.iconst 0, 1) := by decide +kernel
theorem dX1_become_57 : decode cX1_become 57 = .ok (.istore 6, 2) := by decide +kernel
theorem dX1_become_59 : decode cX1_become 59 = .ok (.iload 6, 2) := by decide +kernel
theorem dX1_become_61 : decode cX1_become 61 = .ok (.ifCond .ne 17, 3) := by decide +kernel
theorem dX1_become_64 : decode cX1_become 64 = .ok (.aload_n 0, 1) := by decide +kernel
theorem dX1_become_65 : decode cX1_become 65 = .ok (.getfield 9, 3) := by decide +kernel
theorem dX1_become_68 : decode cX1_become 68 = .ok (.iload 5, 2) := by decide +kernel
theorem dX1_become_70 : decode cX1_become 70 = .ok (.aload_n 1, 1) := by decide +kernel
theorem dX1_become_71 : decode cX1_become 71 = .ok (.getfield 9, 3) := by decide +kernel
theorem dX1_become_74 : decode cX1_become 74 = .ok (.iload 5, 2) := by decide +kernel
theorem dX1_become_76 : decode cX1_become 76 = .ok (.iaload, 1) := by decide +kernel
theorem dX1_become_77 : decode cX1_become 77 = .ok (.iastore, 1) := by decide +kernel
theorem dX1_become_78 : decode cX1_become 78 = .ok (.iinc 5 1, 3) := by decide +kernel
theorem dX1_become_81 : decode cX1_become 81 = .ok (.goto (-65), 3) := by decide +kernel
theorem dX1_become_84 : decode cX1_become 84 = .ok (.aload_n 0, 1) := by decide +kernel
theorem dX1_become_85 : decode cX1_become 85 = .ok (.aload_n 1, 1) := by decide +kernel
theorem dX1_become_86 : decode cX1_become 86 = .ok (.getfield 15, 3) := by decide +kernel
theorem dX1_become_89 : decode cX1_become 89 = .ok (.putfield 15, 3) := by decide +kernel
theorem dX1_become_92 : decode cX1_become 92 = .ok (.aload_n 1, 1) := by decide +kernel
theorem dX1_become_93 : decode cX1_become 93 = .ok (.getfield 19, 3) := by decide +kernel
theorem dX1_become_96 : decode cX1_become 96 = .ok (.iconst 0, 1) := by decide +kernel
theorem dX1_become_97 : decode cX1_become 97 = .ok (.aload_n 0, 1) := by decide +kernel
theorem dX1_become_98 : decode cX1_become 98 = .ok (.getfield 19, 3) := by decide +kernel
theorem dX1_become_101 : decode cX1_become 101 = .ok (.iconst 0, 1) := by decide +kernel
theorem dX1_become_102 : decode cX1_become 102 = .ok (.bipush 40, 2) := by decide +kernel
theorem dX1_become_104 : decode cX1_become 104 = .ok (.invokestatic 39, 3) := by decide +kernel
theorem dX1_become_107 : decode cX1_become 107 = .ok (.aload_n 0, 1) := by decide +kernel
theorem dX1_become_108 : decode cX1_become 108 = .ok (.aload_n 1, 1) := by decide +kernel
theorem dX1_become_109 : decode cX1_become 109 = .ok (.getfield 22, 3) := by decide +kernel
theorem dX1_become_112 : decode cX1_become 112 = .ok (.putfield 22, 3) := by decide +kernel
theorem dX1_become_115 : decode cX1_become 115 = .ok (.aload_n 1, 1) := by decide +kernel
theorem dX1_become_116 : decode cX1_become 116 = .ok (.getfield 25, 3) := by decide +kernel
theorem dX1_become_119 : decode cX1_become 119 = .ok (.iconst 0, 1) := by decide +kernel
theorem dX1_become_120 : decode cX1_become 120 = .ok (.aload_n 0, 1) := by decide +kernel
theorem dX1_become_121 : decode cX1_become 121 = .ok (.getfield 25, 3) := by decide +kernel
theorem dX1_become_124 : decode cX1_become 124 = .ok (.iconst 0, 1) := by decide +kernel
theorem dX1_become_125 : decode cX1_become 125 = .ok (.bipush 8, 2) := by decide +kernel
theorem dX1_become_127 : decode cX1_become 127 = .ok (.invokestatic 39, 3) := by decide +kernel
theorem dX1_become_130 : decode cX1_become 130 = .ok (.aload_n 1, 1) := by decide +kernel
theorem dX1_become_131 : decode cX1_become 131 = .ok (.getfield 28, 3) := by decide +kernel
theorem dX1_become_134 : decode cX1_become 134 = .ok (.iconst 0, 1) := by decide +kernel
theorem dX1_become_135 : decode cX1_become 135 = .ok (.aload_n 0, 1) := by decide +kernel
theorem dX1_become_136 : decode cX1_become 136 = .ok (.getfield 28, 3) := by decide +kernel
theorem dX1_become_139 : decode cX1_become 139 = .ok (.iconst 0, 1) := by decide +kernel
theorem dX1_become_140 : decode cX1_become 140 = .ok (.bipush 8, 2) := by decide +kernel
theorem dX1_become_142 : decode cX1_become 142 = .ok (.invokestatic 39, 3) := by decide +kernel
theorem dX1_become_145 : decode cX1_become 145 = .ok (.aload_n 0, 1) := by decide +kernel
theorem dX1_become_146 : decode cX1_become 146 = .ok (.aload_n 1, 1) := by decide +kernel
theorem dX1_become_147 : decode cX1_become 147 = .ok (.getfield 31, 3) := by decide +kernel
theorem dX1_become_150 : decode cX1_become 150 = .ok (.putfield 31, 3) := by decide +kernel
theorem dX1_become_153 : decode cX1_become 153 = .ok (.return_, 1) := by decide +kernel
theorem dX1_changeSize_0 : decode cX1_changeSize 0 = .ok (.aload_n 0, 1) := by decide +kernel
theorem dX1_changeSize_1 : decode cX1_changeSize 1 = .ok (.getfield 15, 3) := by decide +kernel
theorem dX1_changeSize_4 : decode cX1_changeSize 4 = .ok (.istore_n 2, 1) := by decide +kernel
theorem dX1_changeSize_5 : decode cX1_changeSize 5 = .ok (.iload_n 2, 1) := by decide +kernel
theorem dX1_changeSize_6 : decode cX1_changeSize 6 = .ok (.iload_n 1, 1) := by decide +kernel
theorem dX1_changeSize_7 : decode cX1_changeSize 7 = .ok (.if_icmp .ge 23, 3) := by decide +kernel
theorem dX1_changeSize_10 : decode cX1_changeSize 10 = .ok (.iload_n 2, 1) := by decide +kernel
theorem dX1_changeSize_11 : decode cX1_changeSize 11 = .ok (.sipush 512, 3) := by decide +kernel
theorem dX1_changeSize_14 : decode cX1_changeSize 14 = .ok (.if_icmp .ge 16, 3) := by decide +kernel
theorem dX1_changeSize_17 : decode cX1_changeSize 17 = .ok (.aload_n 0, 1) := by decide +kernel
theorem dX1_changeSize_18 : decode cX1_changeSize 18 = .ok (.getfield 9, 3) := by decide +kernel
theorem dX1_changeSize_21 : decode cX1_changeSize 21 = .ok (.iload_n 2, 1) := by decide +kernel
theorem dX1_changeSize_22 : decode cX1_changeSize 22 = .ok (.iconst 0, 1) := by decide +kernel
theorem dX1_changeSize_23 : decode cX1_changeSize 23 = .ok (.iastore, 1) := by decide +kernel
theorem dX1_changeSize_24 : decode cX1_changeSize 24 = .ok (.iinc 2 1, 3) := by decide +kernel
theorem dX1_changeSize_27 : decode cX1_changeSize 27 = .ok (.goto (-22), 3) := by decide +kernel
theorem dX1_changeSize_30 : decode cX1_changeSize 30 = .ok (.aload_n 0, 1) := by decide +kernel
theorem dX1_changeSize_31 : decode cX1_changeSize 31 = .ok (.iload_n 1, 1) := by decide +kernel
theorem dX1_changeSize_32 : decode cX1_changeSize 32 = .ok (.putfield 15, 3) := by decide +kernel
theorem dX1_changeSize_35 : decode cX1_changeSize 35 = .ok (.return_, 1) := by decide +kernel
theorem dX1_addInt_0 : decode cX1_addInt 0 = .ok (.aload_n 0, 1) := by decide +kernel
theorem dX1_addInt_1 : decode cX1_addInt 1 = .ok (.getfield 22, 3) := by decide +kernel
theorem dX1_addInt_4 : decode cX1_addInt 4 = .ok (.bipush 40, 2) := by decide +kernel
theorem dX1_addInt_6 : decode cX1_addInt 6 = .ok (.if_icmp .lt 5, 3) := by decide +kernel
theorem dX1_addInt_9 : decode cX1_addInt 9 = .ok (.iconst 0, 1) := by decide +kernel
theorem dX1_addInt_10 : decode cX1_addInt 10 = .ok (.ireturn, 1) := by decide +kernel
theorem dX1_addInt_11 : decode cX1_addInt 11 = .ok (.aload_n 0, 1) := by decide +kernel
theorem dX1_addInt_12 : decode cX1_addInt 12 = .ok (.getfield 19, 3) := by decide +kernel
theorem dX1_addInt_15 : decode cX1_addInt 15 = .ok (.aload_n 0, 1) := by decide +kernel
theorem dX1_addInt_16 : decode cX1_addInt 16 = .ok (.getfield 22, 3) := by decide +kernel
theorem dX1_addInt_19 : decode cX1_addInt 19 = .ok (.iload_n 1, 1) := by decide +kernel
theorem dX1_addInt_20 : decode cX1_addInt 20 = .ok (.iastore, 1) := by decide +kernel
theorem dX1_addInt_21 : decode cX1_addInt 21 = .ok (.aload_n 0, 1) := by decide +kernel
theorem dX1_addInt_22 : decode cX1_addInt 22 = .ok (.dup, 1) := by decide +kernel
theorem dX1_addInt_23 : decode cX1_addInt 23 = .ok (.getfield 22, 3) := by decide +kernel
theorem dX1_addInt_26 : decode cX1_addInt 26 = .ok (.iconst 1, 1) := by decide +kernel
theorem dX1_addInt_27 : decode cX1_addInt 27 = .ok (.iadd, 1) := by decide +kernel
theorem dX1_addInt_28 : decode cX1_addInt 28 = .ok (.putfield 22, 3) := by decide +kernel
theorem dX1_addInt_31 : decode cX1_addInt 31 = .ok (.iconst 1, 1) := by decide +kernel
theorem dX1_addInt_32 : decode cX1_addInt 32 = .ok (.ireturn, 1) := by decide +kernel
theorem dX1_takeInt_0 : decode cX1_takeInt 0 = .ok (.aload_n 0, 1) := by decide +kernel
theorem dX1_takeInt_1 : decode cX1_takeInt 1 = .ok (.getfield 22, 3) := by decide +kernel
theorem dX1_takeInt_4 : decode cX1_takeInt 4 = .ok (.ifCond .gt 5, 3) := by decide +kernel
theorem dX1_takeInt_7 : decode cX1_takeInt 7 = .ok (.iconst 0, 1) := by decide +kernel
theorem dX1_takeInt_8 : decode cX1_takeInt 8 = .ok (.ireturn, 1) := by decide +kernel
theorem dX1_takeInt_9 : decode cX1_takeInt 9 = .ok (.aload_n 0, 1) := by decide +kernel
theorem dX1_takeInt_10 : decode cX1_takeInt 10 = .ok (.dup, 1) := by decide +kernel
theorem dX1_takeInt_11 : decode cX1_takeInt 11 = .ok (.getfield 22, 3) := by decide +kernel
theorem dX1_takeInt_14 : decode cX1_takeInt 14 = .ok (.iconst 1, 1) := by decide +kernel
theorem dX1_takeInt_15 : decode cX1_takeInt 15 = .ok (.isub, 1) := by decide +kernel
theorem dX1_takeInt_16 : decode cX1_takeInt 16 = .ok (.putfield 22, 3) := by decide +kernel
theorem dX1_takeInt_19 : decode cX1_takeInt 19 = .ok (.aload_n 0, 1) := by decide +kernel
theorem dX1_takeInt_20 : decode cX1_takeInt 20 = .ok (.getfield 19, 3) := by decide +kernel
theorem dX1_takeInt_23 : decode cX1_takeInt 23 = .ok (.aload_n 0, 1) := by decide +kernel
theorem dX1_takeInt_24 : decode cX1_takeInt 24 = .ok (.getfield 22, 3) := by decide +kernel
theorem dX1_takeInt_27 : decode cX1_takeInt 27 = .ok (.iaload, 1) := by decide +kernel
theorem dX1_takeInt_28 : decode cX1_takeInt 28 = .ok (.ireturn, 1) := by decide +kernel
theorem dX1_blocksEnd_0 : decode cX1_blocksEnd 0 = .ok (.aload_n 0, 1) := by decide +kernel
theorem dX1_blocksEnd_1 : decode cX1_blocksEnd 1 = .ok (.getfield 31, 3) := by decide +kernel
theorem dX1_blocksEnd_4 : decode cX1_blocksEnd 4 = .ok (.ifCond .ne 7, 3) := by decide +kernel
theorem dX1_blocksEnd_7 : decode cX1_blocksEnd 7 = .ok (.iconst 0, 1) := by decide +kernel
theorem dX1_blocksEnd_8 : decode cX1_blocksEnd 8 = .ok (.goto 26, 3) := by decide +kernel
theorem dX1_blocksEnd_11 : decode cX1_blocksEnd 11 = .ok (.aload_n 0, 1) := by decide +kernel
theorem dX1_blocksEnd_12 : decode cX1_blocksEnd 12 = .ok (.getfield 25, 3) := by decide +kernel
theorem dX1_blocksEnd_15 : decode cX1_blocksEnd 15 = .ok (.aload_n 0, 1) := by decide +kernel
theorem dX1_blocksEnd_16 : decode cX1_blocksEnd 16 = .ok (.getfield 31, 3) := by decide +kernel
theorem dX1_blocksEnd_19 : decode cX1_blocksEnd 19 = .ok (.iconst 1, 1) := by decide +kernel
theorem dX1_blocksEnd_20 : decode cX1_blocksEnd 20 = .ok (.isub, 1) := by decide +kernel
theorem dX1_blocksEnd_21 : decode cX1_blocksEnd 21 = .ok (.iaload, 1) := by decide +kernel
theorem dX1_blocksEnd_22 : decode cX1_blocksEnd 22 = .ok (.aload_n 0, 1) := by decide +kernel
theorem dX1_blocksEnd_23 : decode cX1_blocksEnd 23 = .ok (.getfield 28, 3) := by decide +kernel
theorem dX1_blocksEnd_26 : decode cX1_blocksEnd 26 = .ok (.aload_n 0, 1) := by decide +kernel
theorem dX1_blocksEnd_27 : decode cX1_blocksEnd 27 = .ok (.getfield 31, 3) := by decide +kernel
theorem dX1_blocksEnd_30 : decode cX1_blocksEnd 30 = .ok (.iconst 1, 1) := by decide +kernel
theorem dX1_blocksEnd_31 : decode cX1_blocksEnd 31 = .ok (.isub, 1) := by decide +kernel
theorem dX1_blocksEnd_32 : decode cX1_blocksEnd 32 = .ok (.iaload, 1) := by decide +kernel
theorem dX1_blocksEnd_33 : decode cX1_blocksEnd 33 = .ok (.iadd, 1) := by decide +kernel
theorem dX1_blocksEnd_34 : decode cX1_blocksEnd 34 = .ok (.ireturn, 1) := by decide +kernel
theorem dX1_blockAt_0 : decode cX1_blockAt 0 = .ok (.iconst 0, 1) := by decide +kernel
theorem dX1_blockAt_1 : decode cX1_blockAt 1 = .ok (.istore_n 2, 1) := by decide +kernel
theorem dX1_blockAt_2 : decode cX1_blockAt 2 = .ok (.iload_n 2, 1) := by decide +kernel
theorem dX1_blockAt_3 : decode cX1_blockAt 3 = .ok (.aload_n 0, 1) := by decide +kernel
theorem dX1_blockAt_4 : decode cX1_blockAt 4 = .ok (.getfield 31, 3) := by decide +kernel
theorem dX1_blockAt_7 : decode cX1_blockAt 7 = .ok (.if_icmp .ge 21, 3) := by decide +kernel
theorem dX1_blockAt_10 : decode cX1_blockAt 10 = .ok (.aload_n 0, 1) := by decide +kernel
theorem dX1_blockAt_11 : decode cX1_blockAt 11 = .ok (.getfield 25, 3) := by decide +kernel
theorem dX1_blockAt_14 : decode cX1_blockAt 14 = .ok (.iload_n 2, 1) := by decide +kernel
theorem dX1_blockAt_15 : decode cX1_blockAt 15 = .ok (.iaload, 1) := by decide +kernel
theorem dX1_blockAt_16 : decode cX1_blockAt 16 = .ok (.iload_n 1, 1) := by decide +kernel
theorem dX1_blockAt_17 : decode cX1_blockAt 17 = .ok (.if_icmp .ne 5, 3) := by decide +kernel
theorem dX1_blockAt_20 : decode cX1_blockAt 20 = .ok (.iload_n 2, 1) := by decide +kernel
theorem dX1_blockAt_21 : decode cX1_blockAt 21 = .ok (.ireturn, 1) := by decide +kernel
theorem dX1_blockAt_22 : decode cX1_blockAt 22 = .ok (.iinc 2 1, 3) := by decide +kernel
theorem dX1_blockAt_25 : decode cX1_blockAt 25 = .ok (.goto (-23), 3) := by decide +kernel
theorem dX1_blockAt_28 : decode cX1_blockAt 28 = .ok (.iconst (-1), 1) := by decide +kernel
theorem dX1_blockAt_29 : decode cX1_blockAt 29 = .ok (.ireturn, 1) := by decide +kernel
theorem dX1_fits_0 : decode cX1_fits 0 = .ok (.iload_n 1, 1) := by decide +kernel
theorem dX1_fits_1 : decode cX1_fits 1 = .ok (.iload_n 3, 1) := by decide +kernel
theorem dX1_fits_2 : decode cX1_fits 2 = .ok (.if_icmp .lt 20, 3) := by decide +kernel
theorem dX1_fits_5 : decode cX1_fits 5 = .ok (.iload_n 2, 1) := by decide +kernel
theorem dX1_fits_6 : decode cX1_fits 6 = .ok (.invokestatic 54, 3) := by decide +kernel
theorem dX1_fits_9 : decode cX1_fits 9 = .ok (.ifCond .eq 13, 3) := by decide +kernel
theorem dX1_fits_12 : decode cX1_fits 12 = .ok (.iload_n 1, 1) := by decide +kernel
theorem dX1_fits_13 : decode cX1_fits 13 = .ok (.aload_n 0, 1) := by decide +kernel
theorem dX1_fits_14 : decode cX1_fits 14 = .ok (.getfield 15, 3) := by decide +kernel
theorem dX1_fits_17 : decode cX1_fits 17 = .ok (.iload_n 2, 1) := by decide +kernel
theorem dX1_fits_18 : decode cX1_fits 18 = .ok (.isub, 1) := by decide +kernel
theorem dX1_fits_19 : decode cX1_fits 19 = .ok (.if_icmp .le 5, 3) := by decide +kernel
theorem dX1_fits_22 : decode cX1_fits 22 = .ok (.iconst 0, 1) := by decide +kernel
theorem dX1_fits_23 : decode cX1_fits 23 = .ok (.ireturn, 1) := by decide +kernel
theorem dX1_fits_24 : decode cX1_fits 24 = .ok (.iconst 0, 1) := by decide +kernel
theorem dX1_fits_25 : decode cX1_fits 25 = .ok (.istore 4, 2) := by decide +kernel
theorem dX1_fits_27 : decode cX1_fits 27 = .ok (.iload 4, 2) := by decide +kernel
theorem dX1_fits_29 : decode cX1_fits 29 = .ok (.aload_n 0, 1) := by decide +kernel
theorem dX1_fits_30 : decode cX1_fits 30 = .ok (.getfield 31, 3) := by decide +kernel
theorem dX1_fits_33 : decode cX1_fits 33 = .ok (.if_icmp .ge 43, 3) := by decide +kernel
theorem dX1_fits_36 : decode cX1_fits 36 = .ok (.iload_n 1, 1) := by decide +kernel
theorem dX1_fits_37 : decode cX1_fits 37 = .ok (.aload_n 0, 1) := by decide +kernel
theorem dX1_fits_38 : decode cX1_fits 38 = .ok (.getfield 25, 3) := by decide +kernel
theorem dX1_fits_41 : decode cX1_fits 41 = .ok (.iload 4, 2) := by decide +kernel
theorem dX1_fits_43 : decode cX1_fits 43 = .ok (.iaload, 1) := by decide +kernel
theorem dX1_fits_44 : decode cX1_fits 44 = .ok (.aload_n 0, 1) := by decide +kernel
theorem dX1_fits_45 : decode cX1_fits 45 = .ok (.getfield 28, 3) := by decide +kernel
theorem dX1_fits_48 : decode cX1_fits 48 = .ok (.iload 4, 2) := by decide +kernel
theorem dX1_fits_50 : decode cX1_fits 50 = .ok (.iaload, 1) := by decide +kernel
theorem dX1_fits_51 : decode cX1_fits 51 = .ok (.iadd, 1) := by decide +kernel
theorem dX1_fits_52 : decode cX1_fits 52 = .ok (.if_icmp .ge 18, 3) := by decide +kernel
theorem dX1_fits_55 : decode cX1_fits 55 = .ok (.aload_n 0, 1) := by decide +kernel
theorem dX1_fits_56 : decode cX1_fits 56 = .ok (.getfield 25, 3) := by decide +kernel
theorem dX1_fits_59 : decode cX1_fits 59 = .ok (.iload 4, 2) := by decide +kernel
theorem dX1_fits_61 : decode cX1_fits 61 = .ok (.iaload, 1) := by decide +kernel
theorem dX1_fits_62 : decode cX1_fits 62 = .ok (.iload_n 1, 1) := by decide +kernel
theorem dX1_fits_63 : decode cX1_fits 63 = .ok (.iload_n 2, 1) := by decide +kernel
theorem dX1_fits_64 : decode cX1_fits 64 = .ok (.iadd, 1) := by decide +kernel
theorem dX1_fits_65 : decode cX1_fits 65 = .ok (.if_icmp .ge 5, 3) := by decide +kernel
theorem dX1_fits_68 : decode cX1_fits 68 = .ok (.iconst 0, 1) := by decide +kernel
theorem dX1_fits_69 : decode cX1_fits 69 = .ok (.ireturn, 1) := by decide +kernel
theorem dX1_fits_70 : decode cX1_fits 70 = .ok (.iinc 4 1, 3) := by decide +kernel
theorem dX1_fits_73 : decode cX1_fits 73 = .ok (.goto (-46), 3) := by decide +kernel
theorem dX1_fits_76 : decode cX1_fits 76 = .ok (.iconst 1, 1) := by decide +kernel
theorem dX1_fits_77 : decode cX1_fits 77 = .ok (.ireturn, 1) := by decide +kernel
theorem dX1_addBlock_0 : decode cX1_addBlock 0 = .ok (.aload_n 0, 1) := by decide +kernel
theorem dX1_addBlock_1 : decode cX1_addBlock 1 = .ok (.getfield 31, 3) := by decide +kernel
theorem dX1_addBlock_4 : decode cX1_addBlock 4 = .ok (.bipush 8, 2) := by decide +kernel
theorem dX1_addBlock_6 : decode cX1_addBlock 6 = .ok (.if_icmp .lt 5, 3) := by decide +kernel
theorem dX1_addBlock_9 : decode cX1_addBlock 9 = .ok (.iconst 0, 1) := by decide +kernel
theorem dX1_addBlock_10 : decode cX1_addBlock 10 = .ok (.ireturn, 1) := by decide +kernel
theorem dX1_addBlock_11 : decode cX1_addBlock 11 = .ok (.aload_n 0, 1) := by decide +kernel
theorem dX1_addBlock_12 : decode cX1_addBlock 12 = .ok (.getfield 31, 3) := by decide +kernel
theorem dX1_addBlock_15 : decode cX1_addBlock 15 = .ok (.istore_n 3, 1) := by decide +kernel
theorem dX1_addBlock_16 : decode cX1_addBlock 16 = .ok (.iload_n 3, 1) := by decide +kernel
theorem dX1_addBlock_17 : decode cX1_addBlock 17 = .ok (.ifCond .le 49, 3) := by decide +kernel
theorem dX1_addBlock_20 : decode cX1_addBlock 20 = .ok (.aload_n 0, 1) := by decide +kernel
theorem dX1_addBlock_21 : decode cX1_addBlock 21 = .ok (.getfield 25, 3) := by decide +kernel
theorem dX1_addBlock_24 : decode cX1_addBlock 24 = .ok (.iload_n 3, 1) := by decide +kernel
theorem dX1_addBlock_25 : decode cX1_addBlock 25 = .ok (.iconst 1, 1) := by decide +kernel
theorem dX1_addBlock_26 : decode cX1_addBlock 26 = .ok (.isub, 1) := by decide +kernel
theorem dX1_addBlock_27 : decode cX1_addBlock 27 = .ok (.iaload, 1) := by decide +kernel
theorem dX1_addBlock_28 : decode cX1_addBlock 28 = .ok (.iload_n 1, 1) := by decide +kernel
theorem dX1_addBlock_29 : decode cX1_addBlock 29 = .ok (.if_icmp .le 37, 3) := by decide +kernel
theorem dX1_addBlock_32 : decode cX1_addBlock 32 = .ok (.aload_n 0, 1) := by decide +kernel
theorem dX1_addBlock_33 : decode cX1_addBlock 33 = .ok (.getfield 25, 3) := by decide +kernel
theorem dX1_addBlock_36 : decode cX1_addBlock 36 = .ok (.iload_n 3, 1) := by decide +kernel
theorem dX1_addBlock_37 : decode cX1_addBlock 37 = .ok (.aload_n 0, 1) := by decide +kernel
theorem dX1_addBlock_38 : decode cX1_addBlock 38 = .ok (.getfield 25, 3) := by decide +kernel
theorem dX1_addBlock_41 : decode cX1_addBlock 41 = .ok (.iload_n 3, 1) := by decide +kernel
theorem dX1_addBlock_42 : decode cX1_addBlock 42 = .ok (.iconst 1, 1) := by decide +kernel
theorem dX1_addBlock_43 : decode cX1_addBlock 43 = .ok (.isub, 1) := by decide +kernel
theorem dX1_addBlock_44 : decode cX1_addBlock 44 = .ok (.iaload, 1) := by decide +kernel
theorem dX1_addBlock_45 : decode cX1_addBlock 45 = .ok (.iastore, 1) := by decide +kernel
theorem dX1_addBlock_46 : decode cX1_addBlock 46 = .ok (.aload_n 0, 1) := by decide +kernel
theorem dX1_addBlock_47 : decode cX1_addBlock 47 = .ok (.getfield 28, 3) := by decide +kernel
theorem dX1_addBlock_50 : decode cX1_addBlock 50 = .ok (.iload_n 3, 1) := by decide +kernel
theorem dX1_addBlock_51 : decode cX1_addBlock 51 = .ok (.aload_n 0, 1) := by decide +kernel
theorem dX1_addBlock_52 : decode cX1_addBlock 52 = .ok (.getfield 28, 3) := by decide +kernel
theorem dX1_addBlock_55 : decode cX1_addBlock 55 = .ok (.iload_n 3, 1) := by decide +kernel
theorem dX1_addBlock_56 : decode cX1_addBlock 56 = .ok (.iconst 1, 1) := by decide +kernel
theorem dX1_addBlock_57 : decode cX1_addBlock 57 = .ok (.isub, 1) := by decide +kernel
theorem dX1_addBlock_58 : decode cX1_addBlock 58 = .ok (.iaload, 1) := by decide +kernel
theorem dX1_addBlock_59 : decode cX1_addBlock 59 = .ok (.iastore, 1) := by decide +kernel
theorem dX1_addBlock_60 : decode cX1_addBlock 60 = .ok (.iinc 3 (-1), 3) := by decide +kernel
theorem dX1_addBlock_63 : decode cX1_addBlock 63 = .ok (.goto (-47), 3) := by decide +kernel
theorem dX1_addBlock_66 : decode cX1_addBlock 66 = .ok (.aload_n 0, 1) := by decide +kernel
theorem dX1_addBlock_67 : decode cX1_addBlock 67 = .ok (.getfield 25, 3) := by decide +kernel
theorem dX1_addBlock_70 : decode cX1_addBlock 70 = .ok (.iload_n 3, 1) := by decide +kernel
theorem dX1_addBlock_71 : decode cX1_addBlock 71 = .ok (.iload_n 1, 1) := by decide +kernel
theorem dX1_addBlock_72 : decode cX1_addBlock 72 = .ok (.iastore, 1) := by decide +kernel
theorem dX1_addBlock_73 : decode cX1_addBlock 73 = .ok (.aload_n 0, 1) := by decide +kernel
theorem dX1_addBlock_74 : decode cX1_addBlock 74 = .ok (.getfield 28, 3) := by decide +kernel
theorem dX1_addBlock_77 : decode cX1_addBlock 77 = .ok (.iload_n 3, 1) := by decide +kernel
theorem dX1_addBlock_78 : decode cX1_addBlock 78 = .ok (.iload_n 2, 1) := by decide +kernel
theorem dX1_addBlock_79 : decode cX1_addBlock 79 = .ok (.iastore, 1) := by decide +kernel
theorem dX1_addBlock_80 : decode cX1_addBlock 80 = .ok (.aload_n 0, 1) := by decide +kernel
theorem dX1_addBlock_81 : decode cX1_addBlock 81 = .ok (.dup, 1) := by decide +kernel
theorem dX1_addBlock_82 : decode cX1_addBlock 82 = .ok (.getfield 31, 3) := by decide +kernel
theorem dX1_addBlock_85 : decode cX1_addBlock 85 = .ok (.iconst 1, 1) := by decide +kernel
theorem dX1_addBlock_86 : decode cX1_addBlock 86 = .ok (.iadd, 1) := by decide +kernel
theorem dX1_addBlock_87 : decode cX1_addBlock 87 = .ok (.putfield 31, 3) := by decide +kernel
theorem dX1_addBlock_90 : decode cX1_addBlock 90 = .ok (.iconst 1, 1) := by decide +kernel
theorem dX1_addBlock_91 : decode cX1_addBlock 91 = .ok (.ireturn, 1) := by decide +kernel
theorem dX1_removeBlock_0 : decode cX1_removeBlock 0 = .ok (.iload_n 1, 1) := by decide +kernel
theorem dX1_removeBlock_1 : decode cX1_removeBlock 1 = .ok (.ifCond .lt 11, 3) := by decide +kernel
theorem dX1_removeBlock_4 : decode cX1_removeBlock 4 = .ok (.iload_n 1, 1) := by decide +kernel
theorem dX1_removeBlock_5 : decode cX1_removeBlock 5 = .ok (.aload_n 0, 1) := by decide +kernel
theorem dX1_removeBlock_6 : decode cX1_removeBlock 6 = .ok (.getfield 31, 3) := by decide +kernel
theorem dX1_removeBlock_9 : decode cX1_removeBlock 9 = .ok (.if_icmp .lt 5, 3) := by decide +kernel
theorem dX1_removeBlock_12 : decode cX1_removeBlock 12 = .ok (.iconst 0, 1) := by decide +kernel
theorem dX1_removeBlock_13 : decode cX1_removeBlock 13 = .ok (.ireturn, 1) := by decide +kernel
theorem dX1_removeBlock_14 : decode cX1_removeBlock 14 = .ok (.aload_n 0, 1) := by decide +kernel
theorem dX1_removeBlock_15 : decode cX1_removeBlock 15 = .ok (.getfield 28, 3) := by decide +kernel
theorem dX1_removeBlock_18 : decode cX1_removeBlock 18 = .ok (.iload_n 1, 1) := by decide +kernel
theorem dX1_removeBlock_19 : decode cX1_removeBlock 19 = .ok (.iaload, 1) := by decide +kernel
theorem dX1_removeBlock_20 : decode cX1_removeBlock 20 = .ok (.istore_n 2, 1) := by decide +kernel
theorem dX1_removeBlock_21 : decode cX1_removeBlock 21 = .ok (.aload_n 0, 1) := by decide +kernel
theorem dX1_removeBlock_22 : decode cX1_removeBlock 22 = .ok (.dup, 1) := by decide +kernel
theorem dX1_removeBlock_23 : decode cX1_removeBlock 23 = .ok (.getfield 31, 3) := by decide +kernel
theorem dX1_removeBlock_26 : decode cX1_removeBlock 26 = .ok (.iconst 1, 1) := by decide +kernel
theorem dX1_removeBlock_27 : decode cX1_removeBlock 27 = .ok (.isub, 1) := by decide +kernel
theorem dX1_removeBlock_28 : decode cX1_removeBlock 28 = .ok (.putfield 31, 3) := by decide +kernel
theorem dX1_removeBlock_31 : decode cX1_removeBlock 31 = .ok (.iload_n 1, 1) := by decide +kernel
theorem dX1_removeBlock_32 : decode cX1_removeBlock 32 = .ok (.istore_n 3, 1) := by decide +kernel
theorem dX1_removeBlock_33 : decode cX1_removeBlock 33 = .ok (.iload_n 3, 1) := by decide +kernel
theorem dX1_removeBlock_34 : decode cX1_removeBlock 34 = .ok (.aload_n 0, 1) := by decide +kernel
theorem dX1_removeBlock_35 : decode cX1_removeBlock 35 = .ok (.getfield 31, 3) := by decide +kernel
theorem dX1_removeBlock_38 : decode cX1_removeBlock 38 = .ok (.if_icmp .ge 37, 3) := by decide +kernel
theorem dX1_removeBlock_41 : decode cX1_removeBlock 41 = .ok (.aload_n 0, 1) := by decide +kernel
theorem dX1_removeBlock_42 : decode cX1_removeBlock 42 = .ok (.getfield 25, 3) := by decide +kernel
theorem dX1_removeBlock_45 : decode cX1_removeBlock 45 = .ok (.iload_n 3, 1) := by decide +kernel
theorem dX1_removeBlock_46 : decode cX1_removeBlock 46 = .ok (.aload_n 0, 1) := by decide +kernel
theorem dX1_removeBlock_47 : decode cX1_removeBlock 47 = .ok (.getfield 25, 3) := by decide +kernel
theorem dX1_removeBlock_50 : decode cX1_removeBlock 50 = .ok (.iload_n 3, 1) := by decide +kernel
theorem dX1_removeBlock_51 : decode cX1_removeBlock 51 = .ok (.iconst 1, 1) := by decide +kernel
theorem dX1_removeBlock_52 : decode cX1_removeBlock 52 = .ok (.iadd, 1) := by decide +kernel
theorem dX1_removeBlock_53 : decode cX1_removeBlock 53 = .ok (.iaload, 1) := by decide +kernel
theorem dX1_removeBlock_54 : decode cX1_removeBlock 54 = .ok (.iastore, 1) := by decide +kernel
theorem dX1_removeBlock_55 : decode cX1_removeBlock 55 = .ok (.aload_n 0, 1) := by decide +kernel
theorem dX1_removeBlock_56 : decode cX1_removeBlock 56 = .ok (.getfield 28, 3) := by decide +kernel
theorem dX1_removeBlock_59 : decode cX1_removeBlock 59 = .ok (.iload_n 3, 1) := by decide +kernel
theorem dX1_removeBlock_60 : decode cX1_removeBlock 60 = .ok (.aload_n 0, 1) := by decide +kernel
theorem dX1_removeBlock_61 : decode cX1_removeBlock 61 = .ok (.getfield 28, 3) := by decide +kernel
theorem dX1_removeBlock_64 : decode cX1_removeBlock 64 = .ok (.iload_n 3, 1) := by decide +kernel
theorem dX1_removeBlock_65 : decode cX1_removeBlock 65 = .ok (.iconst 1, 1) := by decide +kernel
theorem dX1_removeBlock_66 : decode cX1_removeBlock 66 = .ok (.iadd, 1) := by decide +kernel
theorem dX1_removeBlock_67 : decode cX1_removeBlock 67 = .ok (.iaload, 1) := by decide +kernel
theorem dX1_removeBlock_68 : decode cX1_removeBlock 68 = .ok (.iastore, 1) := by decide +kernel
theorem dX1_removeBlock_69 : decode cX1_removeBlock 69 = .ok (.iinc 3 1, 3) := by decide +kernel
theorem dX1_removeBlock_72 : decode cX1_removeBlock 72 = .ok (.goto (-39), 3) := by decide +kernel
theorem dX1_removeBlock_75 : decode cX1_removeBlock 75 = .ok (.iload_n 2, 1) := by decide +kernel
theorem dX1_removeBlock_76 : decode cX1_removeBlock 76 = .ok (.ireturn, 1) := by decide +kernel
theorem dX1_number_0 : decode cX1_number 0 = .ok (.aload_n 0, 1) := by decide +kernel
theorem dX1_number_1 : decode cX1_number 1 = .ok (.getfield 15, 3) := by decide +kernel
theorem dX1_number_4 : decode cX1_number 4 = .ok (.istore_n 1, 1) := by decide +kernel
theorem dX1_number_5 : decode cX1_number 5 = .ok (.iconst 0, 1) := by decide +kernel
theorem dX1_number_6 : decode cX1_number 6 = .ok (.istore_n 2, 1) := by decide +kernel
theorem dX1_number_7 : decode cX1_number 7 = .ok (.iload_n 2, 1) := by decide +kernel
theorem dX1_number_8 : decode cX1_number 8 = .ok (.aload_n 0, 1) := by decide +kernel
theorem dX1_number_9 : decode cX1_number 9 = .ok (.getfield 15, 3) := by decide +kernel
theorem dX1_number_12 : decode cX1_number 12 = .ok (.if_icmp .ge 21, 3) := by decide +kernel
theorem dX1_number_15 : decode cX1_number 15 = .ok (.bipush 31, 2) := by decide +kernel
theorem dX1_number_17 : decode cX1_number 17 = .ok (.iload_n 1, 1) := by decide +kernel
theorem dX1_number_18 : decode cX1_number 18 = .ok (.imul, 1) := by decide +kernel
theorem dX1_number_19 : decode cX1_number 19 = .ok (.aload_n 0, 1) := by decide +kernel
theorem dX1_number_20 : decode cX1_number 20 = .ok (.getfield 9, 3) := by decide +kernel
theorem dX1_number_23 : decode cX1_number 23 = .ok (.iload_n 2, 1) := by decide +kernel
theorem dX1_number_24 : decode cX1_number 24 = .ok (.iaload, 1) := by decide +kernel
theorem dX1_number_25 : decode cX1_number 25 = .ok (.iadd, 1) := by decide +kernel
theorem dX1_number_26 : decode cX1_number 26 = .ok (.istore_n 1, 1) := by decide +kernel
theorem dX1_number_27 : decode cX1_number 27 = .ok (.iinc 2 1, 3) := by decide +kernel
theorem dX1_number_30 : decode cX1_number 30 = .ok (.goto (-23), 3) := by decide +kernel
theorem dX1_number_33 : decode cX1_number 33 = .ok (.iconst 0, 1) := by decide +kernel
theorem dX1_number_34 : decode cX1_number 34 = .ok (.istore_n 2, 1) := by decide +kernel
theorem dX1_number_35 : decode cX1_number 35 = .ok (.iload_n 2, 1) := by decide +kernel
theorem dX1_number_36 : decode cX1_number 36 = .ok (.aload_n 0, 1) := by decide +kernel
theorem dX1_number_37 : decode cX1_number 37 = .ok (.getfield 22, 3) := by decide +kernel
theorem dX1_number_40 : decode cX1_number 40 = .ok (.if_icmp .ge 21, 3) := by decide +kernel
theorem dX1_number_43 : decode cX1_number 43 = .ok (.bipush 31, 2) := by decide +kernel
theorem dX1_number_45 : decode cX1_number 45 = .ok (.iload_n 1, 1) := by decide +kernel
theorem dX1_number_46 : decode cX1_number 46 = .ok (.imul, 1) := by decide +kernel
theorem dX1_number_47 : decode cX1_number 47 = .ok (.aload_n 0, 1) := by decide +kernel
theorem dX1_number_48 : decode cX1_number 48 = .ok (.getfield 19, 3) := by decide +kernel
theorem dX1_number_51 : decode cX1_number 51 = .ok (.iload_n 2, 1) := by decide +kernel
theorem dX1_number_52 : decode cX1_number 52 = .ok (.iaload, 1) := by decide +kernel
theorem dX1_number_53 : decode cX1_number 53 = .ok (.iadd, 1) := by decide +kernel
theorem dX1_number_54 : decode cX1_number 54 = .ok (.istore_n 1, 1) := by decide +kernel
theorem dX1_number_55 : decode cX1_number 55 = .ok (.iinc 2 1, 3) := by decide +kernel
theorem dX1_number_58 : decode cX1_number 58 = .ok (.goto (-23), 3) := by decide +kernel
theorem dX1_number_61 : decode cX1_number 61 = .ok (.iconst 0, 1) := by decide +kernel
theorem dX1_number_62 : decode cX1_number 62 = .ok (.istore_n 2, 1) := by decide +kernel
theorem dX1_number_63 : decode cX1_number 63 = .ok (.iload_n 2, 1) := by decide +kernel
theorem dX1_number_64 : decode cX1_number 64 = .ok (.aload_n 0, 1) := by decide +kernel
theorem dX1_number_65 : decode cX1_number 65 = .ok (.getfield 31, 3) := by decide +kernel
theorem dX1_number_68 : decode cX1_number 68 = .ok (.if_icmp .ge 33, 3) := by decide +kernel
theorem dX1_number_71 : decode cX1_number 71 = .ok (.bipush 31, 2) := by decide +kernel
theorem dX1_number_73 : decode cX1_number 73 = .ok (.iload_n 1, 1) := by decide +kernel
theorem dX1_number_74 : decode cX1_number 74 = .ok (.imul, 1) := by decide +kernel
theorem dX1_number_75 : decode cX1_number 75 = .ok (.aload_n 0, 1) := by decide +kernel
theorem dX1_number_76 : decode cX1_number 76 = .ok (.getfield 25, 3) := by decide +kernel
theorem dX1_number_79 : decode cX1_number 79 = .ok (.iload_n 2, 1) := by decide +kernel
theorem dX1_number_80 : decode cX1_number 80 = .ok (.iaload, 1) := by decide +kernel
theorem dX1_number_81 : decode cX1_number 81 = .ok (.iadd, 1) := by decide +kernel
theorem dX1_number_82 : decode cX1_number 82 = .ok (.istore_n 1, 1) := by decide +kernel
theorem dX1_number_83 : decode cX1_number 83 = .ok (.bipush 31, 2) := by decide +kernel
theorem dX1_number_85 : decode cX1_number 85 = .ok (.iload_n 1, 1) := by decide +kernel
theorem dX1_number_86 : decode cX1_number 86 = .ok (.imul, 1) := by decide +kernel
theorem dX1_number_87 : decode cX1_number 87 = .ok (.aload_n 0, 1) := by decide +kernel
theorem dX1_number_88 : decode cX1_number 88 = .ok (.getfield 28, 3) := by decide +kernel
theorem dX1_number_91 : decode cX1_number 91 = .ok (.iload_n 2, 1) := by decide +kernel
theorem dX1_number_92 : decode cX1_number 92 = .ok (.iaload, 1) := by decide +kernel
theorem dX1_number_93 : decode cX1_number 93 = .ok (.iadd, 1) := by decide +kernel
theorem dX1_number_94 : decode cX1_number 94 = .ok (.istore_n 1, 1) := by decide +kernel
theorem dX1_number_95 : decode cX1_number 95 = .ok (.iinc 2 1, 3) := by decide +kernel
theorem dX1_number_98 : decode cX1_number 98 = .ok (.goto (-35), 3) := by decide +kernel
theorem dX1_number_101 : decode cX1_number 101 = .ok (.iload_n 1, 1) := by decide +kernel
theorem dX1_number_102 : decode cX1_number 102 = .ok (.ireturn, 1) := by decide +kernel
theorem dX2_init_0 : decode cX2_init 0 = .ok (.aload_n 0, 1) := by decide +kernel
theorem dX2_init_1 : decode cX2_init 1 = .ok (.invokespecial 3, 3) := by decide +kernel
theorem dX2_init_4 : decode cX2_init 4 = .ok (.aload_n 0, 1) := by decide +kernel
theorem dX2_init_5 : decode cX2_init 5 = .ok (.iconst 0, 1) := by decide +kernel
theorem dX2_init_6 : decode cX2_init 6 = .ok (.putfield 9, 3) := by decide +kernel
theorem dX2_init_9 : decode cX2_init 9 = .ok (.aload_n 0, 1) := by decide +kernel
theorem dX2_init_10 : decode cX2_init 10 = .ok (.iconst 4, 1) := by decide +kernel
theorem dX2_init_11 : decode cX2_init 11 = .ok (.newarray .int, 2) := by decide +kernel
theorem dX2_init_13 : decode cX2_init 13 = .ok (.putfield 15, 3) := by decide +kernel
theorem dX2_init_16 : decode cX2_init 16 = .ok (.aload_n 0, 1) := by decide +kernel
theorem dX2_init_17 : decode cX2_init 17 = .ok (.iconst 4, 1) := by decide +kernel
theorem dX2_init_18 : decode cX2_init 18 = .ok (.newarray .int, 2) := by decide +kernel
theorem dX2_init_20 : decode cX2_init 20 = .ok (.putfield 19, 3) := by decide +kernel
theorem dX2_init_23 : decode cX2_init 23 = .ok (.aload_n 0, 1) := by decide +kernel
theorem dX2_init_24 : decode cX2_init 24 = .ok (.sipush 240, 3) := by decide +kernel
theorem dX2_init_27 : decode cX2_init 27 = .ok (.newarray .int, 2) := by decide +kernel
theorem dX2_init_29 : decode cX2_init 29 = .ok (.putfield 22, 3) := by decide +kernel
theorem dX2_init_32 : decode cX2_init 32 = .ok (.return_, 1) := by decide +kernel
theorem dX2_become_0 : decode cX2_become 0 = .ok (.aload_n 0, 1) := by decide +kernel
theorem dX2_become_1 : decode cX2_become 1 = .ok (.aload_n 1, 1) := by decide +kernel
theorem dX2_become_2 : decode cX2_become 2 = .ok (.getfield 9, 3) := by decide +kernel
theorem dX2_become_5 : decode cX2_become 5 = .ok (.putfield 9, 3) := by decide +kernel
theorem dX2_become_8 : decode cX2_become 8 = .ok (.aload_n 1, 1) := by decide +kernel
theorem dX2_become_9 : decode cX2_become 9 = .ok (.getfield 15, 3) := by decide +kernel
theorem dX2_become_12 : decode cX2_become 12 = .ok (.iconst 0, 1) := by decide +kernel
theorem dX2_become_13 : decode cX2_become 13 = .ok (.aload_n 0, 1) := by decide +kernel
theorem dX2_become_14 : decode cX2_become 14 = .ok (.getfield 15, 3) := by decide +kernel
theorem dX2_become_17 : decode cX2_become 17 = .ok (.iconst 0, 1) := by decide +kernel
theorem dX2_become_18 : decode cX2_become 18 = .ok (.iconst 4, 1) := by decide +kernel
theorem dX2_become_19 : decode cX2_become 19 = .ok (.invokestatic 25, 3) := by decide +kernel
theorem dX2_become_22 : decode cX2_become 22 = .ok (.aload_n 1, 1) := by decide +kernel
theorem dX2_become_23 : decode cX2_become 23 = .ok (.getfield 19, 3) := by decide +kernel
theorem dX2_become_26 : decode cX2_become 26 = .ok (.iconst 0, 1) := by decide +kernel
theorem dX2_become_27 : decode cX2_become 27 = .ok (.aload_n 0, 1) := by decide +kernel
theorem dX2_become_28 : decode cX2_become 28 = .ok (.getfield 19, 3) := by decide +kernel
theorem dX2_become_31 : decode cX2_become 31 = .ok (.iconst 0, 1) := by decide +kernel
theorem dX2_become_32 : decode cX2_become 32 = .ok (.iconst 4, 1) := by decide +kernel
theorem dX2_become_33 : decode cX2_become 33 = .ok (.invokestatic 25, 3) := by decide +kernel
theorem dX2_become_36 : decode cX2_become 36 = .ok (.aload_n 1, 1) := by decide +kernel
theorem dX2_become_37 : decode cX2_become 37 = .ok (.getfield 22, 3) := by decide +kernel
theorem dX2_become_40 : decode cX2_become 40 = .ok (.iconst 0, 1) := by decide +kernel
theorem dX2_become_41 : decode cX2_become 41 = .ok (.aload_n 0, 1) := by decide +kernel
theorem dX2_become_42 : decode cX2_become 42 = .ok (.getfield 22, 3) := by decide +kernel
theorem dX2_become_45 : decode cX2_become 45 = .ok (.iconst 0, 1) := by decide +kernel
theorem dX2_become_46 : decode cX2_become 46 = .ok (.sipush 240, 3) := by decide +kernel
theorem dX2_become_49 : decode cX2_become 49 = .ok (.invokestatic 25, 3) := by decide +kernel
theorem dX2_become_52 : decode cX2_become 52 = .ok (.return_, 1) := by decide +kernel
theorem dX2_addFrom_0 : decode cX2_addFrom 0 = .ok (.aload_n 0, 1) := by decide +kernel
theorem dX2_addFrom_1 : decode cX2_addFrom 1 = .ok (.getfield 9, 3) := by decide +kernel
theorem dX2_addFrom_4 : decode cX2_addFrom 4 = .ok (.iconst 4, 1) := by decide +kernel
theorem dX2_addFrom_5 : decode cX2_addFrom 5 = .ok (.if_icmp .ge 13, 3) := by decide +kernel
theorem dX2_addFrom_8 : decode cX2_addFrom 8 = .ok (.iload_n 3, 1) := by decide +kernel
theorem dX2_addFrom_9 : decode cX2_addFrom 9 = .ok (.ifCond .lt 9, 3) := by decide +kernel
theorem dX2_addFrom_12 : decode cX2_addFrom 12 = .ok (.iload_n 3, 1) := by decide +kernel
theorem dX2_addFrom_13 : decode cX2_addFrom 13 = .ok (.bipush 60, 2) := by decide +kernel
theorem dX2_addFrom_15 : decode cX2_addFrom 15 = .ok (.if_icmp .le 4, 3) := by decide +kernel
theorem dX2_addFrom_18 : decode cX2_addFrom 18 = .ok (.return_, 1) := by decide +kernel
theorem dX2_addFrom_19 : decode cX2_addFrom 19 = .ok (.aload_n 0, 1) := by decide +kernel
theorem dX2_addFrom_20 : decode cX2_addFrom 20 = .ok (.getfield 15, 3) := by decide +kernel
theorem dX2_addFrom_23 : decode cX2_addFrom 23 = .ok (.aload_n 0, 1) := by decide +kernel
theorem dX2_addFrom_24 : decode cX2_addFrom 24 = .ok (.getfield 9, 3) := by decide +kernel
theorem dX2_addFrom_27 : decode cX2_addFrom 27 = .ok (.aload_n 1, 1) := by decide +kernel
theorem dX2_addFrom_28 : decode cX2_addFrom 28 = .ok (.iload_n 2, 1) := by decide +kernel
theorem dX2_addFrom_29 : decode cX2_addFrom 29 = .ok (.invokevirtual 31, 3) := by decide +kernel
theorem dX2_addFrom_32 : decode cX2_addFrom 32 = .ok (.iastore, 1) := by decide +kernel
theorem dX2_addFrom_33 : decode cX2_addFrom 33 = .ok (.aload_n 0, 1) := by decide +kernel
theorem dX2_addFrom_34 : decode cX2_addFrom 34 = .ok (.getfield 19, 3) := by decide +kernel
theorem dX2_addFrom_37 : decode cX2_addFrom 37 = .ok (.aload_n 0, 1) := by decide +kernel
theorem dX2_addFrom_38 : decode cX2_addFrom 38 = .ok (.getfield 9, 3) := by decide +kernel
theorem dX2_addFrom_41 : decode cX2_addFrom 41 = .ok (.iload_n 3, 1) := by decide +kernel
theorem dX2_addFrom_42 : decode cX2_addFrom 42 = .ok (.iastore, 1) := by decide +kernel
theorem dX2_addFrom_43 : decode cX2_addFrom 43 = .ok (.iconst 0, 1) := by decide +kernel
theorem dX2_addFrom_44 : decode cX2_addFrom 44 = .ok (.istore 4, 2) := by decide +kernel
theorem dX2_addFrom_46 : decode cX2_addFrom 46 = .ok (.iload 4, 2) := by decide +kernel
theorem dX2_addFrom_48 : decode cX2_addFrom 48 = .ok (.iload_n 3, 1) := by decide +kernel
theorem dX2_addFrom_49 : decode cX2_addFrom 49 = .ok (.if_icmp .ge 35, 3) := by decide +kernel
theorem dX2_addFrom_52 : decode cX2_addFrom 52 = .ok (.aload_n 0, 1) := by decide +kernel
theorem dX2_addFrom_53 : decode cX2_addFrom 53 = .ok (.getfield 22, 3) := by decide +kernel
theorem dX2_addFrom_56 : decode cX2_addFrom 56 = .ok (.aload_n 0, 1) := by decide +kernel
theorem dX2_addFrom_57 : decode cX2_addFrom 57 = .ok (.getfield 9, 3) := by decide +kernel
theorem dX2_addFrom_60 : decode cX2_addFrom 60 = .ok (.bipush 60, 2) := by decide +kernel
theorem dX2_addFrom_62 : decode cX2_addFrom 62 = .ok (.imul, 1) := by decide +kernel
theorem dX2_addFrom_63 : decode cX2_addFrom 63 = .ok (.iload 4, 2) := by decide +kernel
theorem dX2_addFrom_65 : decode cX2_addFrom 65 = .ok (.iadd, 1) := by decide +kernel
theorem dX2_addFrom_66 : decode cX2_addFrom 66 = .ok (.aload_n 1, 1) := by decide +kernel
theorem dX2_addFrom_67 : decode cX2_addFrom 67 = .ok (.iload_n 2, 1) := by decide +kernel
theorem dX2_addFrom_68 : decode cX2_addFrom 68 = .ok (.bipush 8, 2) := by decide +kernel
theorem dX2_addFrom_70 : decode cX2_addFrom 70 = .ok (.iadd, 1) := by decide +kernel
theorem dX2_addFrom_71 : decode cX2_addFrom 71 = .ok (.iload 4, 2) := by decide +kernel
theorem dX2_addFrom_73 : decode cX2_addFrom 73 = .ok (.iadd, 1) := by decide +kernel
theorem dX2_addFrom_74 : decode cX2_addFrom 74 = .ok (.invokevirtual 37, 3) := by decide +kernel
theorem dX2_addFrom_77 : decode cX2_addFrom 77 = .ok (.iastore, 1) := by decide +kernel
theorem dX2_addFrom_78 : decode cX2_addFrom 78 = .ok (.iinc 4 1, 3) := by decide +kernel
theorem dX2_addFrom_81 : decode cX2_addFrom 81 = .ok (.goto (-35), 3) := by decide +kernel
theorem dX2_addFrom_84 : decode cX2_addFrom 84 = .ok (.aload_n 0, 1) := by decide +kernel
theorem dX2_addFrom_85 : decode cX2_addFrom 85 = .ok (.dup, 1) := by decide +kernel
theorem dX2_addFrom_86 : decode cX2_addFrom 86 = .ok (.getfield 9, 3) := by decide +kernel
theorem dX2_addFrom_89 : decode cX2_addFrom 89 = .ok (.iconst 1, 1) := by decide +kernel
theorem dX2_addFrom_90 : decode cX2_addFrom 90 = .ok (.iadd, 1) := by decide +kernel
theorem dX2_addFrom_91 : decode cX2_addFrom 91 = .ok (.putfield 9, 3) := by decide +kernel
theorem dX2_addFrom_94 : decode cX2_addFrom 94 = .ok (.return_, 1) := by decide +kernel
theorem dX2_bytesInAll_0 : decode cX2_bytesInAll 0 = .ok (.iconst 0, 1) := by decide +kernel
theorem dX2_bytesInAll_1 : decode cX2_bytesInAll 1 = .ok (.istore_n 1, 1) := by decide +kernel
theorem dX2_bytesInAll_2 : decode cX2_bytesInAll 2 = .ok (.iconst 0, 1) := by decide +kernel
theorem dX2_bytesInAll_3 : decode cX2_bytesInAll 3 = .ok (.istore_n 2, 1) := by decide +kernel
theorem dX2_bytesInAll_4 : decode cX2_bytesInAll 4 = .ok (.iload_n 2, 1) := by decide +kernel
theorem dX2_bytesInAll_5 : decode cX2_bytesInAll 5 = .ok (.aload_n 0, 1) := by decide +kernel
theorem dX2_bytesInAll_6 : decode cX2_bytesInAll 6 = .ok (.getfield 9, 3) := by decide +kernel
theorem dX2_bytesInAll_9 : decode cX2_bytesInAll 9 = .ok (.if_icmp .ge 18, 3) := by decide +kernel
theorem dX2_bytesInAll_12 : decode cX2_bytesInAll 12 = .ok (.iload_n 1, 1) := by decide +kernel
theorem dX2_bytesInAll_13 : decode cX2_bytesInAll 13 = .ok (.aload_n 0, 1) := by decide +kernel
theorem dX2_bytesInAll_14 : decode cX2_bytesInAll 14 = .ok (.getfield 19, 3) := by decide +kernel
theorem dX2_bytesInAll_17 : decode cX2_bytesInAll 17 = .ok (.iload_n 2, 1) := by decide +kernel
theorem dX2_bytesInAll_18 : decode cX2_bytesInAll 18 = .ok (.iaload, 1) := by decide +kernel
theorem dX2_bytesInAll_19 : decode cX2_bytesInAll 19 = .ok (.iadd, 1) := by decide +kernel
theorem dX2_bytesInAll_20 : decode cX2_bytesInAll 20 = .ok (.istore_n 1, 1) := by decide +kernel
theorem dX2_bytesInAll_21 : decode cX2_bytesInAll 21 = .ok (.iinc 2 1, 3) := by decide +kernel
theorem dX2_bytesInAll_24 : decode cX2_bytesInAll 24 = .ok (.goto (-20), 3) := by decide +kernel
theorem dX2_bytesInAll_27 : decode cX2_bytesInAll 27 = .ok (.iload_n 1, 1) := by decide +kernel
theorem dX2_bytesInAll_28 : decode cX2_bytesInAll 28 = .ok (.ireturn, 1) := by decide +kernel
theorem dX3_init_0 : decode cX3_init 0 = .ok (.aload_n 0, 1) := by decide +kernel
theorem dX3_init_1 : decode cX3_init 1 = .ok (.invokespecial 3, 3) := by decide +kernel
theorem dX3_init_4 : decode cX3_init 4 = .ok (.aload_n 0, 1) := by decide +kernel
theorem dX3_init_5 : decode cX3_init 5 = .ok (.new 9, 3) := by decide +kernel
theorem dX3_init_8 : decode cX3_init 8 = .ok (.dup, 1) := by decide +kernel
theorem dX3_init_9 : decode cX3_init 9 = .ok (.invokespecial 11, 3) := by decide +kernel
theorem dX3_init_12 : decode cX3_init 12 = .ok (.putfield 12, 3) := by decide +kernel
theorem dX3_init_15 : decode cX3_init 15 = .ok (.aload_n 0, 1) := by decide +kernel
theorem dX3_init_16 : decode cX3_init 16 = .ok (.new 18, 3) := by decide +kernel
theorem dX3_init_19 : decode cX3_init 19 = .ok (.dup, 1) := by decide +kernel
theorem dX3_init_20 : decode cX3_init 20 = .ok (.invokespecial 20, 3) := by decide +kernel
theorem dX3_init_23 : decode cX3_init 23 = .ok (.putfield 21, 3) := by decide +kernel
theorem dX3_init_26 : decode cX3_init 26 = .ok (.aload_n 0, 1) := by decide +kernel
theorem dX3_init_27 : decode cX3_init 27 = .ok (.iconst 0, 1) := by decide +kernel
theorem dX3_init_28 : decode cX3_init 28 = .ok (.putfield 25, 3) := by decide +kernel
theorem dX3_init_31 : decode cX3_init 31 = .ok (.aload_n 0, 1) := by decide +kernel
theorem dX3_init_32 : decode cX3_init 32 = .ok (.iconst 0, 1) := by decide +kernel
theorem dX3_init_33 : decode cX3_init 33 = .ok (.putfield 29, 3) := by decide +kernel
theorem dX3_init_36 : decode cX3_init 36 = .ok (.aload_n 0, 1) := by decide +kernel
theorem dX3_init_37 : decode cX3_init 37 = .ok (.iconst 0, 1) := by decide +kernel
theorem dX3_init_38 : decode cX3_init 38 = .ok (.putfield 32, 3) := by decide +kernel
theorem dX3_init_41 : decode cX3_init 41 = .ok (.aload_n 0, 1) := by decide +kernel
theorem dX3_init_42 : decode cX3_init 42 = .ok (.iconst 0, 1) := by decide +kernel
theorem dX3_init_43 : decode cX3_init 43 = .ok (.putfield 35, 3) := by decide +kernel
theorem dX3_init_46 : decode cX3_init 46 = .ok (.aload_n 0, 1) := by decide +kernel
theorem dX3_init_47 : decode cX3_init 47 = .ok (.iconst 0, 1) := by decide +kernel
theorem dX3_init_48 : decode cX3_init 48 = .ok (.putfield 39, 3) := by decide +kernel
theorem dX3_init_51 : decode cX3_init 51 = .ok (.aload_n 0, 1) := by decide +kernel
theorem dX3_init_52 : decode cX3_init 52 = .ok (.iconst 0, 1) := by decide +kernel
theorem dX3_init_53 : decode cX3_init 53 = .ok (.putfield 42, 3) := by decide +kernel
theorem dX3_init_56 : decode cX3_init 56 = .ok (.aload_n 0, 1) := by decide +kernel
theorem dX3_init_57 : decode cX3_init 57 = .ok (.iconst 0, 1) := by decide +kernel
theorem dX3_init_58 : decode cX3_init 58 = .ok (.putfield 45, 3) := by decide +kernel
theorem dX3_init_61 : decode cX3_init 61 = .ok (.aload_n 0, 1) := by decide +kernel
theorem dX3_init_62 : decode cX3_init 62 = .ok (.aload_n 1, 1) := by decide +kernel
theorem dX3_init_63 : decode cX3_init 63 = .ok (.putfield 48, 3) := by decide +kernel
theorem dX3_init_66 : decode cX3_init 66 = .ok (.return_, 1) := by decide +kernel
theorem dX3_read_0 : decode cX3_read 0 = .ok (.aload_n 0, 1) := by decide +kernel
theorem dX3_read_1 : decode cX3_read 1 = .ok (.invokevirtual 52, 3) := by decide +kernel
theorem dX3_read_4 : decode cX3_read 4 = .ok (.aload_n 0, 1) := by decide +kernel
theorem dX3_read_5 : decode cX3_read 5 = .ok (.aload_n 1, 1) := by decide +kernel
theorem dX3_read_6 : decode cX3_read 6 = .ok (.invokevirtual 55, 3) := by decide +kernel
theorem dX3_read_9 : decode cX3_read 9 = .ok (.ifCond .ne 5, 3) := by decide +kernel
theorem dX3_read_12 : decode cX3_read 12 = .ok (.iconst 0, 1) := by decide +kernel
theorem dX3_read_13 : decode cX3_read 13 = .ok (.ireturn, 1) := by decide +kernel
theorem dX3_read_14 : decode cX3_read 14 = .ok (.iconst 0, 1) := by decide +kernel
theorem dX3_read_15 : decode cX3_read 15 = .ok (.istore_n 2, 1) := by decide +kernel
theorem dX3_read_16 : decode cX3_read 16 = .ok (.iload_n 2, 1) := by decide +kernel
theorem dX3_read_17 : decode cX3_read 17 = .ok (.bipush 9, 2) := by decide +kernel
theorem dX3_read_19 : decode cX3_read 19 = .ok (.if_icmp .ge 34, 3) := by decide +kernel
theorem dX3_read_22 : decode cX3_read 22 = .ok (.aload_n 0, 1) := by decide +kernel
theorem dX3_read_23 : decode cX3_read 23 = .ok (.getfield 32, 3) := by decide +kernel
theorem dX3_read_26 : decode cX3_read 26 = .ok (.aload_n 1, 1) := by decide +kernel
theorem dX3_read_27 : decode cX3_read 27 = .ok (.getfield 59, 3) := by decide +kernel
theorem dX3_read_30 : decode cX3_read 30 = .ok (.if_icmp .ge 23, 3) := by decide +kernel
theorem dX3_read_33 : decode cX3_read 33 = .ok (.aload_n 0, 1) := by decide +kernel
theorem dX3_read_34 : decode cX3_read 34 = .ok (.aload_n 1, 1) := by decide +kernel
theorem dX3_read_35 : decode cX3_read 35 = .ok (.aload_n 0, 1) := by decide +kernel
theorem dX3_read_36 : decode cX3_read 36 = .ok (.getfield 32, 3) := by decide +kernel
theorem dX3_read_39 : decode cX3_read 39 = .ok (.invokevirtual 64, 3) := by decide +kernel
theorem dX3_read_42 : decode cX3_read 42 = .ok (.ifCond .ne 5, 3) := by decide +kernel
theorem dX3_read_45 : decode cX3_read 45 = .ok (.iconst 0, 1) := by decide +kernel
theorem dX3_read_46 : decode cX3_read 46 = .ok (.ireturn, 1) := by decide +kernel
theorem dX3_read_47 : decode cX3_read 47 = .ok (.iinc 2 1, 3) := by decide +kernel
theorem dX3_read_50 : decode cX3_read 50 = .ok (.goto (-34), 3) := by decide +kernel
theorem dX3_read_53 : decode cX3_read 53 = .ok (.aload_n 0, 1) := by decide +kernel
theorem dX3_read_54 : decode cX3_read 54 = .ok (.getfield 39, 3) := by decide +kernel
theorem dX3_read_57 : decode cX3_read 57 = .ok (.ifCond .eq 10, 3) := by decide +kernel
theorem dX3_read_60 : decode cX3_read 60 = .ok (.aload_n 0, 1) := by decide +kernel
theorem dX3_read_61 : decode cX3_read 61 = .ok (.getfield 42, 3) := by decide +kernel
theorem dX3_read_64 : decode cX3_read 64 = .ok (.ifCond .ne 16, 3) := by decide +kernel
theorem dX3_read_67 : decode cX3_read 67 = .ok (.aload_n 0, 1) := by decide +kernel
theorem dX3_read_68 : decode cX3_read 68 = .ok (.bipush 8, 2) := by decide +kernel
theorem dX3_read_70 : decode cX3_read 70 = .ok (.aload_n 1, 1) := by decide +kernel
theorem dX3_read_71 : decode cX3_read 71 = .ok (.getfield 59, 3) := by decide +kernel
theorem dX3_read_74 : decode cX3_read 74 = .ok (.invokevirtual 68, 3) := by decide +kernel
theorem dX3_read_77 : decode cX3_read 77 = .ok (.ifCond .eq 7, 3) := by decide +kernel
theorem dX3_read_80 : decode cX3_read 80 = .ok (.iconst 1, 1) := by decide +kernel
theorem dX3_read_81 : decode cX3_read 81 = .ok (.goto 4, 3) := by decide +kernel
theorem dX3_read_84 : decode cX3_read 84 = .ok (.iconst 0, 1) := by decide +kernel
theorem dX3_read_85 : decode cX3_read 85 = .ok (.ireturn, 1) := by decide +kernel
theorem dX3_forget_0 : decode cX3_forget 0 = .ok (.aload_n 0, 1) := by decide +kernel
theorem dX3_forget_1 : decode cX3_forget 1 = .ok (.getfield 12, 3) := by decide +kernel
theorem dX3_forget_4 : decode cX3_forget 4 = .ok (.aload_n 0, 1) := by decide +kernel
theorem dX3_forget_5 : decode cX3_forget 5 = .ok (.getfield 48, 3) := by decide +kernel
theorem dX3_forget_8 : decode cX3_forget 8 = .ok (.invokevirtual 72, 3) := by decide +kernel
theorem dX3_forget_11 : decode cX3_forget 11 = .ok (.aload_n 0, 1) := by decide +kernel
theorem dX3_forget_12 : decode cX3_forget 12 = .ok (.getfield 21, 3) := by decide +kernel
theorem dX3_forget_15 : decode cX3_forget 15 = .ok (.iconst 0, 1) := by decide +kernel
theorem dX3_forget_16 : decode cX3_forget 16 = .ok (.putfield 76, 3) := by decide +kernel
theorem dX3_forget_19 : decode cX3_forget 19 = .ok (.aload_n 0, 1) := by decide +kernel
theorem dX3_forget_20 : decode cX3_forget 20 = .ok (.iconst 0, 1) := by decide +kernel
theorem dX3_forget_21 : decode cX3_forget 21 = .ok (.putfield 25, 3) := by decide +kernel
theorem dX3_forget_24 : decode cX3_forget 24 = .ok (.aload_n 0, 1) := by decide +kernel
theorem dX3_forget_25 : decode cX3_forget 25 = .ok (.iconst 0, 1) := by decide +kernel
theorem dX3_forget_26 : decode cX3_forget 26 = .ok (.putfield 29, 3) := by decide +kernel
theorem dX3_forget_29 : decode cX3_forget 29 = .ok (.aload_n 0, 1) := by decide +kernel
theorem dX3_forget_30 : decode cX3_forget 30 = .ok (.bipush 12, 2) := by decide +kernel
theorem dX3_forget_32 : decode cX3_forget 32 = .ok (.putfield 32, 3) := by decide +kernel
theorem dX3_forget_35 : decode cX3_forget 35 = .ok (.aload_n 0, 1) := by decide +kernel
theorem dX3_forget_36 : decode cX3_forget 36 = .ok (.iconst 0, 1) := by decide +kernel
theorem dX3_forget_37 : decode cX3_forget 37 = .ok (.putfield 35, 3) := by decide +kernel
theorem dX3_forget_40 : decode cX3_forget 40 = .ok (.aload_n 0, 1) := by decide +kernel
theorem dX3_forget_41 : decode cX3_forget 41 = .ok (.iconst 0, 1) := by decide +kernel
theorem dX3_forget_42 : decode cX3_forget 42 = .ok (.putfield 39, 3) := by decide +kernel
theorem dX3_forget_45 : decode cX3_forget 45 = .ok (.aload_n 0, 1) := by decide +kernel
theorem dX3_forget_46 : decode cX3_forget 46 = .ok (.iconst 0, 1) := by decide +kernel
theorem dX3_forget_47 : decode cX3_forget 47 = .ok (.putfield 42, 3) := by decide +kernel
theorem dX3_forget_50 : decode cX3_forget 50 = .ok (.aload_n 0, 1) := by decide +kernel
theorem dX3_forget_51 : decode cX3_forget 51 = .ok (.iconst 0, 1) := by decide +kernel
theorem dX3_forget_52 : decode cX3_forget 52 = .ok (.putfield 45, 3) := by decide +kernel
theorem dX3_forget_55 : decode cX3_forget 55 = .ok (.return_, 1) := by decide +kernel
theorem dX3_fail_0 : decode cX3_fail 0 = .ok (.aload_n 0, 1) := by decide +kernel
theorem dX3_fail_1 : decode cX3_fail 1 = .ok (.iload_n 1, 1) := by decide +kernel
theorem dX3_fail_2 : decode cX3_fail 2 = .ok (.putfield 25, 3) := by decide +kernel
theorem dX3_fail_5 : decode cX3_fail 5 = .ok (.aload_n 0, 1) := by decide +kernel
theorem dX3_fail_6 : decode cX3_fail 6 = .ok (.iload_n 2, 1) := by decide +kernel
theorem dX3_fail_7 : decode cX3_fail 7 = .ok (.putfield 29, 3) := by decide +kernel
theorem dX3_fail_10 : decode cX3_fail 10 = .ok (.iconst 0, 1) := by decide +kernel
theorem dX3_fail_11 : decode cX3_fail 11 = .ok (.ireturn, 1) := by decide +kernel
theorem dX3_reaches_0 : decode cX3_reaches 0 = .ok (.aload_n 1, 1) := by decide +kernel
theorem dX3_reaches_1 : decode cX3_reaches 1 = .ok (.iload_n 2, 1) := by decide +kernel
theorem dX3_reaches_2 : decode cX3_reaches 2 = .ok (.lload_n 3, 1) := by decide +kernel
theorem dX3_reaches_3 : decode cX3_reaches 3 = .ok (.invokevirtual 79, 3) := by decide +kernel
theorem dX3_reaches_6 : decode cX3_reaches 6 = .ok (.ifCond .ne 15, 3) := by decide +kernel
theorem dX3_reaches_9 : decode cX3_reaches 9 = .ok (.aload_n 0, 1) := by decide +kernel
theorem dX3_reaches_10 : decode cX3_reaches 10 = .ok (.iconst 1, 1) := by decide +kernel
theorem dX3_reaches_11 : decode cX3_reaches 11 = .ok (.aload_n 1, 1) := by decide +kernel
theorem dX3_reaches_12 : decode cX3_reaches 12 = .ok (.getfield 59, 3) := by decide +kernel
theorem dX3_reaches_15 : decode cX3_reaches 15 = .ok (.invokevirtual 68, 3) := by decide +kernel
theorem dX3_reaches_18 : decode cX3_reaches 18 = .ok (.ifCond .eq 7, 3) := by decide +kernel
theorem dX3_reaches_21 : decode cX3_reaches 21 = .ok (.iconst 1, 1) := by decide +kernel
theorem dX3_reaches_22 : decode cX3_reaches 22 = .ok (.goto 4, 3) := by decide +kernel
theorem dX3_reaches_25 : decode cX3_reaches 25 = .ok (.iconst 0, 1) := by decide +kernel
theorem dX3_reaches_26 : decode cX3_reaches 26 = .ok (.ireturn, 1) := by decide +kernel
theorem dX3_readFront_0 : decode cX3_readFront 0 = .ok (.aload_n 0, 1) := by decide +kernel
theorem dX3_readFront_1 : decode cX3_readFront 1 = .ok (.aload_n 1, 1) := by decide +kernel
theorem dX3_readFront_2 : decode cX3_readFront 2 = .ok (.iconst 0, 1) := by decide +kernel
theorem dX3_readFront_3 : decode cX3_readFront 3 = .ok (.ldc 83, 2) := by decide +kernel
theorem dX3_readFront_5 : decode cX3_readFront 5 = .ok (.invokevirtual 84, 3) := by decide +kernel
theorem dX3_readFront_8 : decode cX3_readFront 8 = .ok (.ifCond .eq 39, 3) := by decide +kernel
theorem dX3_readFront_11 : decode cX3_readFront 11 = .ok (.aload_n 0, 1) := by decide +kernel
theorem dX3_readFront_12 : decode cX3_readFront 12 = .ok (.aload_n 1, 1) := by decide +kernel
theorem dX3_readFront_13 : decode cX3_readFront 13 = .ok (.iconst 4, 1) := by decide +kernel
theorem dX3_readFront_14 : decode cX3_readFront 14 = .ok (.ldc2_w 88, 3) := by decide +kernel
theorem dX3_readFront_17 : decode cX3_readFront 17 = .ok (.invokevirtual 90, 3) := by decide +kernel
theorem dX3_readFront_20 : decode cX3_readFront 20 = .ok (.ifCond .eq 27, 3) := by decide +kernel
theorem dX3_readFront_23 : decode cX3_readFront 23 = .ok (.aload_n 0, 1) := by decide +kernel
theorem dX3_readFront_24 : decode cX3_readFront 24 = .ok (.aload_n 1, 1) := by decide +kernel
theorem dX3_readFront_25 : decode cX3_readFront 25 = .ok (.invokevirtual 94, 3) := by decide +kernel
theorem dX3_readFront_28 : decode cX3_readFront 28 = .ok (.ifCond .eq 19, 3) := by decide +kernel
theorem dX3_readFront_31 : decode cX3_readFront 31 = .ok (.aload_n 0, 1) := by decide +kernel
theorem dX3_readFront_32 : decode cX3_readFront 32 = .ok (.aload_n 1, 1) := by decide +kernel
theorem dX3_readFront_33 : decode cX3_readFront 33 = .ok (.bipush 8, 2) := by decide +kernel
theorem dX3_readFront_35 : decode cX3_readFront 35 = .ok (.ldc 97, 2) := by decide +kernel
theorem dX3_readFront_37 : decode cX3_readFront 37 = .ok (.invokevirtual 84, 3) := by decide +kernel
theorem dX3_readFront_40 : decode cX3_readFront 40 = .ok (.ifCond .eq 7, 3) := by decide +kernel
theorem dX3_readFront_43 : decode cX3_readFront 43 = .ok (.iconst 1, 1) := by decide +kernel
theorem dX3_readFront_44 : decode cX3_readFront 44 = .ok (.goto 4, 3) := by decide +kernel
theorem dX3_readFront_47 : decode cX3_readFront 47 = .ok (.iconst 0, 1) := by decide +kernel
theorem dX3_readFront_48 : decode cX3_readFront 48 = .ok (.ireturn, 1) := by decide +kernel
theorem dX3_readLetters_0 : decode cX3_readLetters 0 = .ok (.iconst 0, 1) := by decide +kernel
theorem dX3_readLetters_1 : decode cX3_readLetters 1 = .ok (.istore 4, 2) := by decide +kernel
theorem dX3_readLetters_3 : decode cX3_readLetters 3 = .ok (.iload 4, 2) := by decide +kernel
theorem dX3_readLetters_5 : decode cX3_readLetters 5 = .ok (.iconst 4, 1) := by decide +kernel
theorem dX3_readLetters_6 : decode cX3_readLetters 6 = .ok (.if_icmp .ge 59, 3) := by decide +kernel
theorem dX3_readLetters_9 : decode cX3_readLetters 9 = .ok (.aload_n 0, 1) := by decide +kernel
theorem dX3_readLetters_10 : decode cX3_readLetters 10 = .ok (.aload_n 1, 1) := by decide +kernel
theorem dX3_readLetters_11 : decode cX3_readLetters 11 = .ok (.iload_n 2, 1) := by decide +kernel
theorem dX3_readLetters_12 : decode cX3_readLetters 12 = .ok (.iload 4, 2) := by decide +kernel
theorem dX3_readLetters_14 : decode cX3_readLetters 14 = .ok (.iadd, 1) := by decide +kernel
theorem dX3_readLetters_15 : decode cX3_readLetters 15 = .ok (.lconst 1, 1) := by decide +kernel
theorem dX3_readLetters_16 : decode cX3_readLetters 16 = .ok (.invokevirtual 90, 3) := by decide +kernel
theorem dX3_readLetters_19 : decode cX3_readLetters 19 = .ok (.ifCond .ne 5, 3) := by decide +kernel
theorem dX3_readLetters_22 : decode cX3_readLetters 22 = .ok (.iconst 0, 1) := by decide +kernel
theorem dX3_readLetters_23 : decode cX3_readLetters 23 = .ok (.ireturn, 1) := by decide +kernel
theorem dX3_readLetters_24 : decode cX3_readLetters 24 = .ok (.aload_n 1, 1) := by decide +kernel
theorem dX3_readLetters_25 : decode cX3_readLetters 25 = .ok (.iload_n 2, 1) := by decide +kernel
theorem dX3_readLetters_26 : decode cX3_readLetters 26 = .ok (.iload 4, 2) := by decide +kernel
theorem dX3_readLetters_28 : decode cX3_readLetters 28 = .ok (.iadd, 1) := by decide +kernel
theorem dX3_readLetters_29 : decode cX3_readLetters 29 = .ok (.invokevirtual 98, 3) := by decide +kernel
theorem dX3_readLetters_32 : decode cX3_readLetters 32 = .ok (.iload_n 3, 1) := by decide +kernel
theorem dX3_readLetters_33 : decode cX3_readLetters 33 = .ok (.bipush 24, 2) := by decide +kernel
theorem dX3_readLetters_35 : decode cX3_readLetters 35 = .ok (.bipush 8, 2) := by decide +kernel
theorem dX3_readLetters_37 : decode cX3_readLetters 37 = .ok (.iload 4, 2) := by decide +kernel
theorem dX3_readLetters_39 : decode cX3_readLetters 39 = .ok (.imul, 1) := by decide +kernel
theorem dX3_readLetters_40 : decode cX3_readLetters 40 = .ok (.isub, 1) := by decide +kernel
theorem dX3_readLetters_41 : decode cX3_readLetters 41 = .ok (.iushr, 1) := by decide +kernel
theorem dX3_readLetters_42 : decode cX3_readLetters 42 = .ok (.sipush 255, 3) := by decide +kernel
theorem dX3_readLetters_45 : decode cX3_readLetters 45 = .ok (.iand, 1) := by decide +kernel
theorem dX3_readLetters_46 : decode cX3_readLetters 46 = .ok (.if_icmp .eq 13, 3) := by decide +kernel
theorem dX3_readLetters_49 : decode cX3_readLetters 49 = .ok (.aload_n 0, 1) := by decide +kernel
theorem dX3_readLetters_50 : decode cX3_readLetters 50 = .ok (.iconst 2, 1) := by decide +kernel
theorem dX3_readLetters_51 : decode cX3_readLetters 51 = .ok (.iload_n 2, 1) := by decide +kernel
theorem dX3_readLetters_52 : decode cX3_readLetters 52 = .ok (.iload 4, 2) := by decide +kernel
theorem dX3_readLetters_54 : decode cX3_readLetters 54 = .ok (.iadd, 1) := by decide +kernel
theorem dX3_readLetters_55 : decode cX3_readLetters 55 = .ok (.invokevirtual 68, 3) := by decide +kernel
theorem dX3_readLetters_58 : decode cX3_readLetters 58 = .ok (.ireturn, 1) := by decide +kernel
theorem dX3_readLetters_59 : decode cX3_readLetters 59 = .ok (.iinc 4 1, 3) := by decide +kernel
theorem dX3_readLetters_62 : decode cX3_readLetters 62 = .ok (.goto (-59), 3) := by decide +kernel
theorem dX3_readLetters_65 : decode cX3_readLetters 65 = .ok (.iconst 1, 1) := by decide +kernel
theorem dX3_readLetters_66 : decode cX3_readLetters 66 = .ok (.ireturn, 1) := by decide +kernel
theorem dX3_readWholeLength_0 : decode cX3_readWholeLength 0 = .ok (.aload_n 1, 1) := by decide +kernel
theorem dX3_readWholeLength_1 : decode cX3_readWholeLength 1 = .ok (.iconst 4, 1) := by decide +kernel
theorem dX3_readWholeLength_2 : decode cX3_readWholeLength 2 = .ok (.invokevirtual 102, 3) := by decide +kernel
theorem dX3_readWholeLength_5 : decode cX3_readWholeLength 5 = .ok (.aload_n 1, 1) := by decide +kernel
theorem dX3_readWholeLength_6 : decode cX3_readWholeLength 6 = .ok (.getfield 59, 3) := by decide +kernel
theorem dX3_readWholeLength_9 : decode cX3_readWholeLength 9 = .ok (.bipush 8, 2) := by decide +kernel
theorem dX3_readWholeLength_11 : decode cX3_readWholeLength 11 = .ok (.isub, 1) := by decide +kernel
theorem dX3_readWholeLength_12 : decode cX3_readWholeLength 12 = .ok (.if_icmp .eq 12, 3) := by decide +kernel
theorem dX3_readWholeLength_15 : decode cX3_readWholeLength 15 = .ok (.aload_n 0, 1) := by decide +kernel
theorem dX3_readWholeLength_16 : decode cX3_readWholeLength 16 = .ok (.iconst 5, 1) := by decide +kernel
theorem dX3_readWholeLength_17 : decode cX3_readWholeLength 17 = .ok (.iconst 4, 1) := by decide +kernel
theorem dX3_readWholeLength_18 : decode cX3_readWholeLength 18 = .ok (.invokevirtual 68, 3) := by decide +kernel
theorem dX3_readWholeLength_21 : decode cX3_readWholeLength 21 = .ok (.ifCond .eq 7, 3) := by decide +kernel
theorem dX3_readWholeLength_24 : decode cX3_readWholeLength 24 = .ok (.iconst 1, 1) := by decide +kernel
theorem dX3_readWholeLength_25 : decode cX3_readWholeLength 25 = .ok (.goto 4, 3) := by decide +kernel
theorem dX3_readWholeLength_28 : decode cX3_readWholeLength 28 = .ok (.iconst 0, 1) := by decide +kernel
theorem dX3_readWholeLength_29 : decode cX3_readWholeLength 29 = .ok (.ireturn, 1) := by decide +kernel
theorem dX3_readChunk_0 : decode cX3_readChunk 0 = .ok (.aload_n 0, 1) := by decide +kernel
theorem dX3_readChunk_1 : decode cX3_readChunk 1 = .ok (.aload_n 1, 1) := by decide +kernel
theorem dX3_readChunk_2 : decode cX3_readChunk 2 = .ok (.iload_n 2, 1) := by decide +kernel
theorem dX3_readChunk_3 : decode cX3_readChunk 3 = .ok (.ldc2_w 88, 3) := by decide +kernel
theorem dX3_readChunk_6 : decode cX3_readChunk 6 = .ok (.invokevirtual 90, 3) := by decide +kernel
theorem dX3_readChunk_9 : decode cX3_readChunk 9 = .ok (.ifCond .ne 5, 3) := by decide +kernel
theorem dX3_readChunk_12 : decode cX3_readChunk 12 = .ok (.iconst 0, 1) := by decide +kernel
theorem dX3_readChunk_13 : decode cX3_readChunk 13 = .ok (.ireturn, 1) := by decide +kernel
theorem dX3_readChunk_14 : decode cX3_readChunk 14 = .ok (.aload_n 1, 1) := by decide +kernel
theorem dX3_readChunk_15 : decode cX3_readChunk 15 = .ok (.iload_n 2, 1) := by decide +kernel
theorem dX3_readChunk_16 : decode cX3_readChunk 16 = .ok (.invokevirtual 102, 3) := by decide +kernel
theorem dX3_readChunk_19 : decode cX3_readChunk 19 = .ok (.istore_n 3, 1) := by decide +kernel
theorem dX3_readChunk_20 : decode cX3_readChunk 20 = .ok (.aload_n 0, 1) := by decide +kernel
theorem dX3_readChunk_21 : decode cX3_readChunk 21 = .ok (.iload_n 3, 1) := by decide +kernel
theorem dX3_readChunk_22 : decode cX3_readChunk 22 = .ok (.iload_n 2, 1) := by decide +kernel
theorem dX3_readChunk_23 : decode cX3_readChunk 23 = .ok (.invokevirtual 105, 3) := by decide +kernel
theorem dX3_readChunk_26 : decode cX3_readChunk 26 = .ok (.ifCond .eq 17, 3) := by decide +kernel
theorem dX3_readChunk_29 : decode cX3_readChunk 29 = .ok (.aload_n 0, 1) := by decide +kernel
theorem dX3_readChunk_30 : decode cX3_readChunk 30 = .ok (.aload_n 1, 1) := by decide +kernel
theorem dX3_readChunk_31 : decode cX3_readChunk 31 = .ok (.iload_n 2, 1) := by decide +kernel
theorem dX3_readChunk_32 : decode cX3_readChunk 32 = .ok (.iconst 4, 1) := by decide +kernel
theorem dX3_readChunk_33 : decode cX3_readChunk 33 = .ok (.iadd, 1) := by decide +kernel
theorem dX3_readChunk_34 : decode cX3_readChunk 34 = .ok (.ldc2_w 88, 3) := by decide +kernel
theorem dX3_readChunk_37 : decode cX3_readChunk 37 = .ok (.invokevirtual 90, 3) := by decide +kernel
theorem dX3_readChunk_40 : decode cX3_readChunk 40 = .ok (.ifCond .ne 5, 3) := by decide +kernel
theorem dX3_readChunk_43 : decode cX3_readChunk 43 = .ok (.iconst 0, 1) := by decide +kernel
theorem dX3_readChunk_44 : decode cX3_readChunk 44 = .ok (.ireturn, 1) := by decide +kernel
theorem dX3_readChunk_45 : decode cX3_readChunk 45 = .ok (.aload_n 1, 1) := by decide +kernel
theorem dX3_readChunk_46 : decode cX3_readChunk 46 = .ok (.iload_n 2, 1) := by decide +kernel
theorem dX3_readChunk_47 : decode cX3_readChunk 47 = .ok (.iconst 4, 1) := by decide +kernel
theorem dX3_readChunk_48 : decode cX3_readChunk 48 = .ok (.iadd, 1) := by decide +kernel
theorem dX3_readChunk_49 : decode cX3_readChunk 49 = .ok (.invokevirtual 102, 3) := by decide +kernel
theorem dX3_readChunk_52 : decode cX3_readChunk 52 = .ok (.istore 4, 2) := by decide +kernel
theorem dX3_readChunk_54 : decode cX3_readChunk 54 = .ok (.aload_n 0, 1) := by decide +kernel
theorem dX3_readChunk_55 : decode cX3_readChunk 55 = .ok (.iload_n 3, 1) := by decide +kernel
theorem dX3_readChunk_56 : decode cX3_readChunk 56 = .ok (.iload 4, 2) := by decide +kernel
theorem dX3_readChunk_58 : decode cX3_readChunk 58 = .ok (.iload_n 2, 1) := by decide +kernel
theorem dX3_readChunk_59 : decode cX3_readChunk 59 = .ok (.invokevirtual 108, 3) := by decide +kernel
theorem dX3_readChunk_62 : decode cX3_readChunk 62 = .ok (.ifCond .eq 14, 3) := by decide +kernel
theorem dX3_readChunk_65 : decode cX3_readChunk 65 = .ok (.aload_n 0, 1) := by decide +kernel
theorem dX3_readChunk_66 : decode cX3_readChunk 66 = .ok (.aload_n 1, 1) := by decide +kernel
theorem dX3_readChunk_67 : decode cX3_readChunk 67 = .ok (.iload_n 2, 1) := by decide +kernel
theorem dX3_readChunk_68 : decode cX3_readChunk 68 = .ok (.iload 4, 2) := by decide +kernel
theorem dX3_readChunk_70 : decode cX3_readChunk 70 = .ok (.invokevirtual 112, 3) := by decide +kernel
theorem dX3_readChunk_73 : decode cX3_readChunk 73 = .ok (.ifCond .ne 5, 3) := by decide +kernel
theorem dX3_readChunk_76 : decode cX3_readChunk 76 = .ok (.iconst 0, 1) := by decide +kernel
theorem dX3_readChunk_77 : decode cX3_readChunk 77 = .ok (.ireturn, 1) := by decide +kernel
theorem dX3_readChunk_78 : decode cX3_readChunk 78 = .ok (.aload_n 0, 1) := by decide +kernel
theorem dX3_readChunk_79 : decode cX3_readChunk 79 = .ok (.iload_n 2, 1) := by decide +kernel
theorem dX3_readChunk_80 : decode cX3_readChunk 80 = .ok (.bipush 8, 2) := by decide +kernel
theorem dX3_readChunk_82 : decode cX3_readChunk 82 = .ok (.iadd, 1) := by decide +kernel
theorem dX3_readChunk_83 : decode cX3_readChunk 83 = .ok (.iload 4, 2) := by decide +kernel
theorem dX3_readChunk_85 : decode cX3_readChunk 85 = .ok (.iadd, 1) := by decide +kernel
theorem dX3_readChunk_86 : decode cX3_readChunk 86 = .ok (.iload 4, 2) := by decide +kernel
theorem dX3_readChunk_88 : decode cX3_readChunk 88 = .ok (.iconst 1, 1) := by decide +kernel
theorem dX3_readChunk_89 : decode cX3_readChunk 89 = .ok (.iand, 1) := by decide +kernel
theorem dX3_readChunk_90 : decode cX3_readChunk 90 = .ok (.iadd, 1) := by decide +kernel
theorem dX3_readChunk_91 : decode cX3_readChunk 91 = .ok (.putfield 32, 3) := by decide +kernel
theorem dX3_readChunk_94 : decode cX3_readChunk 94 = .ok (.aload_n 0, 1) := by decide +kernel
theorem dX3_readChunk_95 : decode cX3_readChunk 95 = .ok (.aload_n 1, 1) := by decide +kernel
theorem dX3_readChunk_96 : decode cX3_readChunk 96 = .ok (.iload_n 3, 1) := by decide +kernel
theorem dX3_readChunk_97 : decode cX3_readChunk 97 = .ok (.iload_n 2, 1) := by decide +kernel
theorem dX3_readChunk_98 : decode cX3_readChunk 98 = .ok (.iload 4, 2) := by decide +kernel
theorem dX3_readChunk_100 : decode cX3_readChunk 100 = .ok (.invokevirtual 115, 3) := by decide +kernel
theorem dX3_readChunk_103 : decode cX3_readChunk 103 = .ok (.ireturn, 1) := by decide +kernel
theorem dX3_mayCome_0 : decode cX3_mayCome 0 = .ok (.aload_n 0, 1) := by decide +kernel
theorem dX3_mayCome_1 : decode cX3_mayCome 1 = .ok (.iload_n 1, 1) := by decide +kernel
theorem dX3_mayCome_2 : decode cX3_mayCome 2 = .ok (.invokevirtual 119, 3) := by decide +kernel
theorem dX3_mayCome_5 : decode cX3_mayCome 5 = .ok (.ifCond .eq 10, 3) := by decide +kernel
theorem dX3_mayCome_8 : decode cX3_mayCome 8 = .ok (.aload_n 0, 1) := by decide +kernel
theorem dX3_mayCome_9 : decode cX3_mayCome 9 = .ok (.iconst 4, 1) := by decide +kernel
theorem dX3_mayCome_10 : decode cX3_mayCome 10 = .ok (.iload_n 2, 1) := by decide +kernel
theorem dX3_mayCome_11 : decode cX3_mayCome 11 = .ok (.invokevirtual 68, 3) := by decide +kernel
theorem dX3_mayCome_14 : decode cX3_mayCome 14 = .ok (.ireturn, 1) := by decide +kernel
theorem dX3_mayCome_15 : decode cX3_mayCome 15 = .ok (.iload_n 1, 1) := by decide +kernel
theorem dX3_mayCome_16 : decode cX3_mayCome 16 = .ok (.ldc 123, 2) := by decide +kernel
theorem dX3_mayCome_18 : decode cX3_mayCome 18 = .ok (.if_icmp .eq 15, 3) := by decide +kernel
theorem dX3_mayCome_21 : decode cX3_mayCome 21 = .ok (.iload_n 1, 1) := by decide +kernel
theorem dX3_mayCome_22 : decode cX3_mayCome 22 = .ok (.ldc 124, 2) := by decide +kernel
theorem dX3_mayCome_24 : decode cX3_mayCome 24 = .ok (.if_icmp .eq 9, 3) := by decide +kernel
theorem dX3_mayCome_27 : decode cX3_mayCome 27 = .ok (.iload_n 1, 1) := by decide +kernel
theorem dX3_mayCome_28 : decode cX3_mayCome 28 = .ok (.ldc 125, 2) := by decide +kernel
theorem dX3_mayCome_30 : decode cX3_mayCome 30 = .ok (.if_icmp .ne 7, 3) := by decide +kernel
theorem dX3_mayCome_33 : decode cX3_mayCome 33 = .ok (.iconst 1, 1) := by decide +kernel
theorem dX3_mayCome_34 : decode cX3_mayCome 34 = .ok (.goto 4, 3) := by decide +kernel
theorem dX3_mayCome_37 : decode cX3_mayCome 37 = .ok (.iconst 0, 1) := by decide +kernel
theorem dX3_mayCome_38 : decode cX3_mayCome 38 = .ok (.istore_n 3, 1) := by decide +kernel
theorem dX3_mayCome_39 : decode cX3_mayCome 39 = .ok (.iload_n 3, 1) := by decide +kernel
theorem dX3_mayCome_40 : decode cX3_mayCome 40 = .ok (.ifCond .eq 10, 3) := by decide +kernel
theorem dX3_mayCome_43 : decode cX3_mayCome 43 = .ok (.aload_n 0, 1) := by decide +kernel
theorem dX3_mayCome_44 : decode cX3_mayCome 44 = .ok (.getfield 35, 3) := by decide +kernel
theorem dX3_mayCome_47 : decode cX3_mayCome 47 = .ok (.ifCond .eq 16, 3) := by decide +kernel
theorem dX3_mayCome_50 : decode cX3_mayCome 50 = .ok (.iload_n 1, 1) := by decide +kernel
theorem dX3_mayCome_51 : decode cX3_mayCome 51 = .ok (.ldc 125, 2) := by decide +kernel
theorem dX3_mayCome_53 : decode cX3_mayCome 53 = .ok (.if_icmp .ne 18, 3) := by decide +kernel
theorem dX3_mayCome_56 : decode cX3_mayCome 56 = .ok (.aload_n 0, 1) := by decide +kernel
theorem dX3_mayCome_57 : decode cX3_mayCome 57 = .ok (.getfield 39, 3) := by decide +kernel
theorem dX3_mayCome_60 : decode cX3_mayCome 60 = .ok (.ifCond .ne 11, 3) := by decide +kernel
theorem dX3_mayCome_63 : decode cX3_mayCome 63 = .ok (.aload_n 0, 1) := by decide +kernel
theorem dX3_mayCome_64 : decode cX3_mayCome 64 = .ok (.bipush 8, 2) := by decide +kernel
theorem dX3_mayCome_66 : decode cX3_mayCome 66 = .ok (.iload_n 2, 1) := by decide +kernel
theorem dX3_mayCome_67 : decode cX3_mayCome 67 = .ok (.invokevirtual 68, 3) := by decide +kernel
theorem dX3_mayCome_70 : decode cX3_mayCome 70 = .ok (.ireturn, 1) := by decide +kernel
theorem dX3_mayCome_71 : decode cX3_mayCome 71 = .ok (.iconst 1, 1) := by decide +kernel
theorem dX3_mayCome_72 : decode cX3_mayCome 72 = .ok (.ireturn, 1) := by decide +kernel
theorem dX3_wasSeen_0 : decode cX3_wasSeen 0 = .ok (.iload_n 1, 1) := by decide +kernel
theorem dX3_wasSeen_1 : decode cX3_wasSeen 1 = .ok (.lookupswitch 63 #[(1129145709, 48), (1229351012, 43), (1296133228, 58), (1400138611, 53)], 43) := by decide +kernel
theorem dX3_wasSeen_44 : decode cX3_wasSeen 44 = .ok (.aload_n 0, 1) := by decide +kernel
theorem dX3_wasSeen_45 : decode cX3_wasSeen 45 = .ok (.getfield 35, 3) := by decide +kernel
theorem dX3_wasSeen_48 : decode cX3_wasSeen 48 = .ok (.ireturn, 1) := by decide +kernel
theorem dX3_wasSeen_49 : decode cX3_wasSeen 49 = .ok (.aload_n 0, 1) := by decide +kernel
theorem dX3_wasSeen_50 : decode cX3_wasSeen 50 = .ok (.getfield 39, 3) := by decide +kernel
theorem dX3_wasSeen_53 : decode cX3_wasSeen 53 = .ok (.ireturn, 1) := by decide +kernel
theorem dX3_wasSeen_54 : decode cX3_wasSeen 54 = .ok (.aload_n 0, 1) := by decide +kernel
theorem dX3_wasSeen_55 : decode cX3_wasSeen 55 = .ok (.getfield 42, 3) := by decide +kernel
theorem dX3_wasSeen_58 : decode cX3_wasSeen 58 = .ok (.ireturn, 1) := by decide +kernel
theorem dX3_wasSeen_59 : decode cX3_wasSeen 59 = .ok (.aload_n 0, 1) := by decide +kernel
theorem dX3_wasSeen_60 : decode cX3_wasSeen 60 = .ok (.getfield 45, 3) := by decide +kernel
theorem dX3_wasSeen_63 : decode cX3_wasSeen 63 = .ok (.ireturn, 1) := by decide +kernel
theorem dX3_wasSeen_64 : decode cX3_wasSeen 64 = .ok (.iconst 0, 1) := by decide +kernel
theorem dX3_wasSeen_65 : decode cX3_wasSeen 65 = .ok (.ireturn, 1) := by decide +kernel
theorem dX3_lengthMayBe_0 : decode cX3_lengthMayBe 0 = .ok (.iload_n 1, 1) := by decide +kernel
theorem dX3_lengthMayBe_1 : decode cX3_lengthMayBe 1 = .ok (.iload_n 2, 1) := by decide +kernel
theorem dX3_lengthMayBe_2 : decode cX3_lengthMayBe 2 = .ok (.invokestatic 126, 3) := by decide +kernel
theorem dX3_lengthMayBe_5 : decode cX3_lengthMayBe 5 = .ok (.ifCond .ne 12, 3) := by decide +kernel
theorem dX3_lengthMayBe_8 : decode cX3_lengthMayBe 8 = .ok (.aload_n 0, 1) := by decide +kernel
theorem dX3_lengthMayBe_9 : decode cX3_lengthMayBe 9 = .ok (.iconst 5, 1) := by decide +kernel
theorem dX3_lengthMayBe_10 : decode cX3_lengthMayBe 10 = .ok (.iload_n 3, 1) := by decide +kernel
theorem dX3_lengthMayBe_11 : decode cX3_lengthMayBe 11 = .ok (.iconst 4, 1) := by decide +kernel
theorem dX3_lengthMayBe_12 : decode cX3_lengthMayBe 12 = .ok (.iadd, 1) := by decide +kernel
theorem dX3_lengthMayBe_13 : decode cX3_lengthMayBe 13 = .ok (.invokevirtual 68, 3) := by decide +kernel
theorem dX3_lengthMayBe_16 : decode cX3_lengthMayBe 16 = .ok (.ireturn, 1) := by decide +kernel
theorem dX3_lengthMayBe_17 : decode cX3_lengthMayBe 17 = .ok (.iload_n 1, 1) := by decide +kernel
theorem dX3_lengthMayBe_18 : decode cX3_lengthMayBe 18 = .ok (.invokestatic 129, 3) := by decide +kernel
theorem dX3_lengthMayBe_21 : decode cX3_lengthMayBe 21 = .ok (.ifCond .ne 28, 3) := by decide +kernel
theorem dX3_lengthMayBe_24 : decode cX3_lengthMayBe 24 = .ok (.aload_n 0, 1) := by decide +kernel
theorem dX3_lengthMayBe_25 : decode cX3_lengthMayBe 25 = .ok (.getfield 21, 3) := by decide +kernel
theorem dX3_lengthMayBe_28 : decode cX3_lengthMayBe 28 = .ok (.getfield 76, 3) := by decide +kernel
theorem dX3_lengthMayBe_31 : decode cX3_lengthMayBe 31 = .ok (.iconst 4, 1) := by decide +kernel
theorem dX3_lengthMayBe_32 : decode cX3_lengthMayBe 32 = .ok (.if_icmp .ge 9, 3) := by decide +kernel
theorem dX3_lengthMayBe_35 : decode cX3_lengthMayBe 35 = .ok (.iload_n 2, 1) := by decide +kernel
theorem dX3_lengthMayBe_36 : decode cX3_lengthMayBe 36 = .ok (.bipush 60, 2) := by decide +kernel
theorem dX3_lengthMayBe_38 : decode cX3_lengthMayBe 38 = .ok (.if_icmp .le 11, 3) := by decide +kernel
theorem dX3_lengthMayBe_41 : decode cX3_lengthMayBe 41 = .ok (.aload_n 0, 1) := by decide +kernel
theorem dX3_lengthMayBe_42 : decode cX3_lengthMayBe 42 = .ok (.bipush 9, 2) := by decide +kernel
theorem dX3_lengthMayBe_44 : decode cX3_lengthMayBe 44 = .ok (.iload_n 3, 1) := by decide +kernel
theorem dX3_lengthMayBe_45 : decode cX3_lengthMayBe 45 = .ok (.invokevirtual 68, 3) := by decide +kernel
theorem dX3_lengthMayBe_48 : decode cX3_lengthMayBe 48 = .ok (.ireturn, 1) := by decide +kernel
theorem dX3_lengthMayBe_49 : decode cX3_lengthMayBe 49 = .ok (.iconst 1, 1) := by decide +kernel
theorem dX3_lengthMayBe_50 : decode cX3_lengthMayBe 50 = .ok (.ireturn, 1) := by decide +kernel
theorem dX3_isKnown_0 : decode cX3_isKnown 0 = .ok (.iload_n 0, 1) := by decide +kernel
theorem dX3_isKnown_1 : decode cX3_isKnown 1 = .ok (.ldc 132, 2) := by decide +kernel
theorem dX3_isKnown_3 : decode cX3_isKnown 3 = .ok (.if_icmp .eq 21, 3) := by decide +kernel
theorem dX3_isKnown_6 : decode cX3_isKnown 6 = .ok (.iload_n 0, 1) := by decide +kernel
theorem dX3_isKnown_7 : decode cX3_isKnown 7 = .ok (.ldc 123, 2) := by decide +kernel
theorem dX3_isKnown_9 : decode cX3_isKnown 9 = .ok (.if_icmp .eq 15, 3) := by decide +kernel
theorem dX3_isKnown_12 : decode cX3_isKnown 12 = .ok (.iload_n 0, 1) := by decide +kernel
theorem dX3_isKnown_13 : decode cX3_isKnown 13 = .ok (.ldc 124, 2) := by decide +kernel
theorem dX3_isKnown_15 : decode cX3_isKnown 15 = .ok (.if_icmp .eq 9, 3) := by decide +kernel
theorem dX3_isKnown_18 : decode cX3_isKnown 18 = .ok (.iload_n 0, 1) := by decide +kernel
theorem dX3_isKnown_19 : decode cX3_isKnown 19 = .ok (.ldc 125, 2) := by decide +kernel
theorem dX3_isKnown_21 : decode cX3_isKnown 21 = .ok (.if_icmp .ne 7, 3) := by decide +kernel
theorem dX3_isKnown_24 : decode cX3_isKnown 24 = .ok (.iconst 1, 1) := by decide +kernel
theorem dX3_isKnown_25 : decode cX3_isKnown 25 = .ok (.goto 4, 3) := by decide +kernel
theorem dX3_isKnown_28 : decode cX3_isKnown 28 = .ok (.iconst 0, 1) := by decide +kernel
theorem dX3_isKnown_29 : decode cX3_isKnown 29 = .ok (.ireturn, 1) := by decide +kernel
theorem dX3_lengthIsRight_0 : decode cX3_lengthIsRight 0 = .ok (.iload_n 0, 1) := by decide +kernel
theorem dX3_lengthIsRight_1 : decode cX3_lengthIsRight 1 = .ok (.lookupswitch 115 #[(1129145709, 55), (1229351012, 43), (1296133228, 89), (1400138611, 66)], 43) := by decide +kernel
theorem dX3_lengthIsRight_44 : decode cX3_lengthIsRight 44 = .ok (.iload_n 1, 1) := by decide +kernel
theorem dX3_lengthIsRight_45 : decode cX3_lengthIsRight 45 = .ok (.bipush 16, 2) := by decide +kernel
theorem dX3_lengthIsRight_47 : decode cX3_lengthIsRight 47 = .ok (.if_icmp .ne 7, 3) := by decide +kernel
theorem dX3_lengthIsRight_50 : decode cX3_lengthIsRight 50 = .ok (.iconst 1, 1) := by decide +kernel
theorem dX3_lengthIsRight_51 : decode cX3_lengthIsRight 51 = .ok (.goto 4, 3) := by decide +kernel
theorem dX3_lengthIsRight_54 : decode cX3_lengthIsRight 54 = .ok (.iconst 0, 1) := by decide +kernel
theorem dX3_lengthIsRight_55 : decode cX3_lengthIsRight 55 = .ok (.ireturn, 1) := by decide +kernel
theorem dX3_lengthIsRight_56 : decode cX3_lengthIsRight 56 = .ok (.iload_n 1, 1) := by decide +kernel
theorem dX3_lengthIsRight_57 : decode cX3_lengthIsRight 57 = .ok (.iconst 4, 1) := by decide +kernel
theorem dX3_lengthIsRight_58 : decode cX3_lengthIsRight 58 = .ok (.if_icmp .lt 7, 3) := by decide +kernel
theorem dX3_lengthIsRight_61 : decode cX3_lengthIsRight 61 = .ok (.iconst 1, 1) := by decide +kernel
theorem dX3_lengthIsRight_62 : decode cX3_lengthIsRight 62 = .ok (.goto 4, 3) := by decide +kernel
theorem dX3_lengthIsRight_65 : decode cX3_lengthIsRight 65 = .ok (.iconst 0, 1) := by decide +kernel
theorem dX3_lengthIsRight_66 : decode cX3_lengthIsRight 66 = .ok (.ireturn, 1) := by decide +kernel
theorem dX3_lengthIsRight_67 : decode cX3_lengthIsRight 67 = .ok (.iload_n 1, 1) := by decide +kernel
theorem dX3_lengthIsRight_68 : decode cX3_lengthIsRight 68 = .ok (.ifCond .lt 20, 3) := by decide +kernel
theorem dX3_lengthIsRight_71 : decode cX3_lengthIsRight 71 = .ok (.iload_n 1, 1) := by decide +kernel
theorem dX3_lengthIsRight_72 : decode cX3_lengthIsRight 72 = .ok (.sipush 160, 3) := by decide +kernel
theorem dX3_lengthIsRight_75 : decode cX3_lengthIsRight 75 = .ok (.if_icmp .gt 13, 3) := by decide +kernel
theorem dX3_lengthIsRight_78 : decode cX3_lengthIsRight 78 = .ok (.iload_n 1, 1) := by decide +kernel
theorem dX3_lengthIsRight_79 : decode cX3_lengthIsRight 79 = .ok (.iconst 4, 1) := by decide +kernel
theorem dX3_lengthIsRight_80 : decode cX3_lengthIsRight 80 = .ok (.irem, 1) := by decide +kernel
theorem dX3_lengthIsRight_81 : decode cX3_lengthIsRight 81 = .ok (.ifCond .ne 7, 3) := by decide +kernel
theorem dX3_lengthIsRight_84 : decode cX3_lengthIsRight 84 = .ok (.iconst 1, 1) := by decide +kernel
theorem dX3_lengthIsRight_85 : decode cX3_lengthIsRight 85 = .ok (.goto 4, 3) := by decide +kernel
theorem dX3_lengthIsRight_88 : decode cX3_lengthIsRight 88 = .ok (.iconst 0, 1) := by decide +kernel
theorem dX3_lengthIsRight_89 : decode cX3_lengthIsRight 89 = .ok (.ireturn, 1) := by decide +kernel
theorem dX3_lengthIsRight_90 : decode cX3_lengthIsRight 90 = .ok (.iload_n 1, 1) := by decide +kernel
theorem dX3_lengthIsRight_91 : decode cX3_lengthIsRight 91 = .ok (.bipush 12, 2) := by decide +kernel
theorem dX3_lengthIsRight_93 : decode cX3_lengthIsRight 93 = .ok (.if_icmp .lt 21, 3) := by decide +kernel
theorem dX3_lengthIsRight_96 : decode cX3_lengthIsRight 96 = .ok (.iload_n 1, 1) := by decide +kernel
theorem dX3_lengthIsRight_97 : decode cX3_lengthIsRight 97 = .ok (.bipush 68, 2) := by decide +kernel
theorem dX3_lengthIsRight_99 : decode cX3_lengthIsRight 99 = .ok (.if_icmp .gt 15, 3) := by decide +kernel
theorem dX3_lengthIsRight_102 : decode cX3_lengthIsRight 102 = .ok (.iload_n 1, 1) := by decide +kernel
theorem dX3_lengthIsRight_103 : decode cX3_lengthIsRight 103 = .ok (.bipush 8, 2) := by decide +kernel
theorem dX3_lengthIsRight_105 : decode cX3_lengthIsRight 105 = .ok (.irem, 1) := by decide +kernel
theorem dX3_lengthIsRight_106 : decode cX3_lengthIsRight 106 = .ok (.iconst 4, 1) := by decide +kernel
theorem dX3_lengthIsRight_107 : decode cX3_lengthIsRight 107 = .ok (.if_icmp .ne 7, 3) := by decide +kernel
theorem dX3_lengthIsRight_110 : decode cX3_lengthIsRight 110 = .ok (.iconst 1, 1) := by decide +kernel
theorem dX3_lengthIsRight_111 : decode cX3_lengthIsRight 111 = .ok (.goto 4, 3) := by decide +kernel
theorem dX3_lengthIsRight_114 : decode cX3_lengthIsRight 114 = .ok (.iconst 0, 1) := by decide +kernel
theorem dX3_lengthIsRight_115 : decode cX3_lengthIsRight 115 = .ok (.ireturn, 1) := by decide +kernel
theorem dX3_lengthIsRight_116 : decode cX3_lengthIsRight 116 = .ok (.iload_n 1, 1) := by decide +kernel
theorem dX3_lengthIsRight_117 : decode cX3_lengthIsRight 117 = .ok (.ifCond .lt 7, 3) := by decide +kernel
theorem dX3_lengthIsRight_120 : decode cX3_lengthIsRight 120 = .ok (.iconst 1, 1) := by decide +kernel
theorem dX3_lengthIsRight_121 : decode cX3_lengthIsRight 121 = .ok (.goto 4, 3) := by decide +kernel
theorem dX3_lengthIsRight_124 : decode cX3_lengthIsRight 124 = .ok (.iconst 0, 1) := by decide +kernel
theorem dX3_lengthIsRight_125 : decode cX3_lengthIsRight 125 = .ok (.ireturn, 1) := by decide +kernel
theorem dX3_isWhole_0 : decode cX3_isWhole 0 = .ok (.iload_n 2, 1) := by decide +kernel
theorem dX3_isWhole_1 : decode cX3_isWhole 1 = .ok (.bipush 8, 2) := by decide +kernel
theorem dX3_isWhole_3 : decode cX3_isWhole 3 = .ok (.iadd, 1) := by decide +kernel
theorem dX3_isWhole_4 : decode cX3_isWhole 4 = .ok (.istore 4, 2) := by decide +kernel
theorem dX3_isWhole_6 : decode cX3_isWhole 6 = .ok (.iload_n 3, 1) := by decide +kernel
theorem dX3_isWhole_7 : decode cX3_isWhole 7 = .ok (.iconst 1, 1) := by decide +kernel
theorem dX3_isWhole_8 : decode cX3_isWhole 8 = .ok (.iand, 1) := by decide +kernel
theorem dX3_isWhole_9 : decode cX3_isWhole 9 = .ok (.ifCond .eq 7, 3) := by decide +kernel
theorem dX3_isWhole_12 : decode cX3_isWhole 12 = .ok (.iconst 1, 1) := by decide +kernel
theorem dX3_isWhole_13 : decode cX3_isWhole 13 = .ok (.goto 4, 3) := by decide +kernel
theorem dX3_isWhole_16 : decode cX3_isWhole 16 = .ok (.iconst 0, 1) := by decide +kernel
theorem dX3_isWhole_17 : decode cX3_isWhole 17 = .ok (.istore 5, 2) := by decide +kernel
theorem dX3_isWhole_19 : decode cX3_isWhole 19 = .ok (.aload_n 0, 1) := by decide +kernel
theorem dX3_isWhole_20 : decode cX3_isWhole 20 = .ok (.aload_n 1, 1) := by decide +kernel
theorem dX3_isWhole_21 : decode cX3_isWhole 21 = .ok (.iload 4, 2) := by decide +kernel
theorem dX3_isWhole_23 : decode cX3_isWhole 23 = .ok (.iload 5, 2) := by decide +kernel
theorem dX3_isWhole_25 : decode cX3_isWhole 25 = .ok (.ifCond .eq 10, 3) := by decide +kernel
theorem dX3_isWhole_28 : decode cX3_isWhole 28 = .ok (.iload_n 3, 1) := by decide +kernel
theorem dX3_isWhole_29 : decode cX3_isWhole 29 = .ok (.i2l, 1) := by decide +kernel
theorem dX3_isWhole_30 : decode cX3_isWhole 30 = .ok (.lconst 1, 1) := by decide +kernel
theorem dX3_isWhole_31 : decode cX3_isWhole 31 = .ok (.ladd, 1) := by decide +kernel
theorem dX3_isWhole_32 : decode cX3_isWhole 32 = .ok (.goto 5, 3) := by decide +kernel
theorem dX3_isWhole_35 : decode cX3_isWhole 35 = .ok (.iload_n 3, 1) := by decide +kernel
theorem dX3_isWhole_36 : decode cX3_isWhole 36 = .ok (.i2l, 1) := by decide +kernel
theorem dX3_isWhole_37 : decode cX3_isWhole 37 = .ok (.invokevirtual 90, 3) := by decide +kernel
theorem dX3_isWhole_40 : decode cX3_isWhole 40 = .ok (.ifCond .ne 5, 3) := by decide +kernel
theorem dX3_isWhole_43 : decode cX3_isWhole 43 = .ok (.iconst 0, 1) := by decide +kernel
theorem dX3_isWhole_44 : decode cX3_isWhole 44 = .ok (.ireturn, 1) := by decide +kernel
theorem dX3_isWhole_45 : decode cX3_isWhole 45 = .ok (.iload 5, 2) := by decide +kernel
theorem dX3_isWhole_47 : decode cX3_isWhole 47 = .ok (.ifCond .eq 26, 3) := by decide +kernel
theorem dX3_isWhole_50 : decode cX3_isWhole 50 = .ok (.aload_n 1, 1) := by decide +kernel
theorem dX3_isWhole_51 : decode cX3_isWhole 51 = .ok (.iload 4, 2) := by decide +kernel
theorem dX3_isWhole_53 : decode cX3_isWhole 53 = .ok (.iload_n 3, 1) := by decide +kernel
theorem dX3_isWhole_54 : decode cX3_isWhole 54 = .ok (.iadd, 1) := by decide +kernel
theorem dX3_isWhole_55 : decode cX3_isWhole 55 = .ok (.invokevirtual 98, 3) := by decide +kernel
theorem dX3_isWhole_58 : decode cX3_isWhole 58 = .ok (.ifCond .eq 15, 3) := by decide +kernel
theorem dX3_isWhole_61 : decode cX3_isWhole 61 = .ok (.aload_n 0, 1) := by decide +kernel
theorem dX3_isWhole_62 : decode cX3_isWhole 62 = .ok (.iconst 2, 1) := by decide +kernel
theorem dX3_isWhole_63 : decode cX3_isWhole 63 = .ok (.iload 4, 2) := by decide +kernel
theorem dX3_isWhole_65 : decode cX3_isWhole 65 = .ok (.iload_n 3, 1) := by decide +kernel
theorem dX3_isWhole_66 : decode cX3_isWhole 66 = .ok (.iadd, 1) := by decide +kernel
theorem dX3_isWhole_67 : decode cX3_isWhole 67 = .ok (.invokevirtual 68, 3) := by decide +kernel
theorem dX3_isWhole_70 : decode cX3_isWhole 70 = .ok (.ifCond .eq 7, 3) := by decide +kernel
theorem dX3_isWhole_73 : decode cX3_isWhole 73 = .ok (.iconst 1, 1) := by decide +kernel
theorem dX3_isWhole_74 : decode cX3_isWhole 74 = .ok (.goto 4, 3) := by decide +kernel
theorem dX3_isWhole_77 : decode cX3_isWhole 77 = .ok (.iconst 0, 1) := by decide +kernel
theorem dX3_isWhole_78 : decode cX3_isWhole 78 = .ok (.ireturn, 1) := by decide +kernel
theorem dX3_readInside_0 : decode cX3_readInside 0 = .ok (.iload_n 3, 1) := by decide +kernel
theorem dX3_readInside_1 : decode cX3_readInside 1 = .ok (.bipush 8, 2) := by decide +kernel
theorem dX3_readInside_3 : decode cX3_readInside 3 = .ok (.iadd, 1) := by decide +kernel
theorem dX3_readInside_4 : decode cX3_readInside 4 = .ok (.istore 5, 2) := by decide +kernel
theorem dX3_readInside_6 : decode cX3_readInside 6 = .ok (.iload_n 2, 1) := by decide +kernel
theorem dX3_readInside_7 : decode cX3_readInside 7 = .ok (.lookupswitch 129 #[(1129145709, 54), (1229351012, 41), (1296133228, 109), (1400138611, 92)], 41) := by decide +kernel
theorem dX3_readInside_48 : decode cX3_readInside 48 = .ok (.aload_n 0, 1) := by decide +kernel
theorem dX3_readInside_49 : decode cX3_readInside 49 = .ok (.iconst 1, 1) := by decide +kernel
theorem dX3_readInside_50 : decode cX3_readInside 50 = .ok (.putfield 35, 3) := by decide +kernel
theorem dX3_readInside_53 : decode cX3_readInside 53 = .ok (.aload_n 0, 1) := by decide +kernel
theorem dX3_readInside_54 : decode cX3_readInside 54 = .ok (.aload_n 1, 1) := by decide +kernel
theorem dX3_readInside_55 : decode cX3_readInside 55 = .ok (.iload 5, 2) := by decide +kernel
theorem dX3_readInside_57 : decode cX3_readInside 57 = .ok (.invokevirtual 133, 3) := by decide +kernel
theorem dX3_readInside_60 : decode cX3_readInside 60 = .ok (.ireturn, 1) := by decide +kernel
theorem dX3_readInside_61 : decode cX3_readInside 61 = .ok (.aload_n 0, 1) := by decide +kernel
theorem dX3_readInside_62 : decode cX3_readInside 62 = .ok (.iconst 1, 1) := by decide +kernel
theorem dX3_readInside_63 : decode cX3_readInside 63 = .ok (.putfield 39, 3) := by decide +kernel
theorem dX3_readInside_66 : decode cX3_readInside 66 = .ok (.aload_n 0, 1) := by decide +kernel
theorem dX3_readInside_67 : decode cX3_readInside 67 = .ok (.aload_n 1, 1) := by decide +kernel
theorem dX3_readInside_68 : decode cX3_readInside 68 = .ok (.iload 5, 2) := by decide +kernel
theorem dX3_readInside_70 : decode cX3_readInside 70 = .ok (.invokevirtual 136, 3) := by decide +kernel
theorem dX3_readInside_73 : decode cX3_readInside 73 = .ok (.ifCond .eq 24, 3) := by decide +kernel
theorem dX3_readInside_76 : decode cX3_readInside 76 = .ok (.aload_n 0, 1) := by decide +kernel
theorem dX3_readInside_77 : decode cX3_readInside 77 = .ok (.aload_n 1, 1) := by decide +kernel
theorem dX3_readInside_78 : decode cX3_readInside 78 = .ok (.iload 5, 2) := by decide +kernel
theorem dX3_readInside_80 : decode cX3_readInside 80 = .ok (.iconst 4, 1) := by decide +kernel
theorem dX3_readInside_81 : decode cX3_readInside 81 = .ok (.iadd, 1) := by decide +kernel
theorem dX3_readInside_82 : decode cX3_readInside 82 = .ok (.iload 5, 2) := by decide +kernel
theorem dX3_readInside_84 : decode cX3_readInside 84 = .ok (.iload 4, 2) := by decide +kernel
theorem dX3_readInside_86 : decode cX3_readInside 86 = .ok (.iadd, 1) := by decide +kernel
theorem dX3_readInside_87 : decode cX3_readInside 87 = .ok (.invokevirtual 139, 3) := by decide +kernel
theorem dX3_readInside_90 : decode cX3_readInside 90 = .ok (.ifCond .eq 7, 3) := by decide +kernel
theorem dX3_readInside_93 : decode cX3_readInside 93 = .ok (.iconst 1, 1) := by decide +kernel
theorem dX3_readInside_94 : decode cX3_readInside 94 = .ok (.goto 4, 3) := by decide +kernel
theorem dX3_readInside_97 : decode cX3_readInside 97 = .ok (.iconst 0, 1) := by decide +kernel
theorem dX3_readInside_98 : decode cX3_readInside 98 = .ok (.ireturn, 1) := by decide +kernel
theorem dX3_readInside_99 : decode cX3_readInside 99 = .ok (.aload_n 0, 1) := by decide +kernel
theorem dX3_readInside_100 : decode cX3_readInside 100 = .ok (.iconst 1, 1) := by decide +kernel
theorem dX3_readInside_101 : decode cX3_readInside 101 = .ok (.putfield 42, 3) := by decide +kernel
theorem dX3_readInside_104 : decode cX3_readInside 104 = .ok (.aload_n 0, 1) := by decide +kernel
theorem dX3_readInside_105 : decode cX3_readInside 105 = .ok (.aload_n 1, 1) := by decide +kernel
theorem dX3_readInside_106 : decode cX3_readInside 106 = .ok (.iload 5, 2) := by decide +kernel
theorem dX3_readInside_108 : decode cX3_readInside 108 = .ok (.iload 4, 2) := by decide +kernel
theorem dX3_readInside_110 : decode cX3_readInside 110 = .ok (.iconst 4, 1) := by decide +kernel
theorem dX3_readInside_111 : decode cX3_readInside 111 = .ok (.idiv, 1) := by decide +kernel
theorem dX3_readInside_112 : decode cX3_readInside 112 = .ok (.invokevirtual 142, 3) := by decide +kernel
theorem dX3_readInside_115 : decode cX3_readInside 115 = .ok (.ireturn, 1) := by decide +kernel
theorem dX3_readInside_116 : decode cX3_readInside 116 = .ok (.aload_n 0, 1) := by decide +kernel
theorem dX3_readInside_117 : decode cX3_readInside 117 = .ok (.iconst 1, 1) := by decide +kernel
theorem dX3_readInside_118 : decode cX3_readInside 118 = .ok (.putfield 45, 3) := by decide +kernel
theorem dX3_readInside_121 : decode cX3_readInside 121 = .ok (.aload_n 0, 1) := by decide +kernel
theorem dX3_readInside_122 : decode cX3_readInside 122 = .ok (.aload_n 1, 1) := by decide +kernel
theorem dX3_readInside_123 : decode cX3_readInside 123 = .ok (.iload 5, 2) := by decide +kernel
theorem dX3_readInside_125 : decode cX3_readInside 125 = .ok (.iload 4, 2) := by decide +kernel
theorem dX3_readInside_127 : decode cX3_readInside 127 = .ok (.iconst 4, 1) := by decide +kernel
theorem dX3_readInside_128 : decode cX3_readInside 128 = .ok (.isub, 1) := by decide +kernel
theorem dX3_readInside_129 : decode cX3_readInside 129 = .ok (.bipush 8, 2) := by decide +kernel
theorem dX3_readInside_131 : decode cX3_readInside 131 = .ok (.idiv, 1) := by decide +kernel
theorem dX3_readInside_132 : decode cX3_readInside 132 = .ok (.invokevirtual 145, 3) := by decide +kernel
theorem dX3_readInside_135 : decode cX3_readInside 135 = .ok (.ireturn, 1) := by decide +kernel
theorem dX3_readInside_136 : decode cX3_readInside 136 = .ok (.aload_n 0, 1) := by decide +kernel
theorem dX3_readInside_137 : decode cX3_readInside 137 = .ok (.getfield 21, 3) := by decide +kernel
theorem dX3_readInside_140 : decode cX3_readInside 140 = .ok (.aload_n 1, 1) := by decide +kernel
theorem dX3_readInside_141 : decode cX3_readInside 141 = .ok (.iload_n 3, 1) := by decide +kernel
theorem dX3_readInside_142 : decode cX3_readInside 142 = .ok (.iload 4, 2) := by decide +kernel
theorem dX3_readInside_144 : decode cX3_readInside 144 = .ok (.invokevirtual 148, 3) := by decide +kernel
theorem dX3_readInside_147 : decode cX3_readInside 147 = .ok (.iconst 1, 1) := by decide +kernel
theorem dX3_readInside_148 : decode cX3_readInside 148 = .ok (.ireturn, 1) := by decide +kernel
theorem dX3_readHead_0 : decode cX3_readHead 0 = .ok (.iconst 0, 1) := by decide +kernel
theorem dX3_readHead_1 : decode cX3_readHead 1 = .ok (.istore_n 3, 1) := by decide +kernel
theorem dX3_readHead_2 : decode cX3_readHead 2 = .ok (.iload_n 3, 1) := by decide +kernel
theorem dX3_readHead_3 : decode cX3_readHead 3 = .ok (.bipush 16, 2) := by decide +kernel
theorem dX3_readHead_5 : decode cX3_readHead 5 = .ok (.if_icmp .ge 37, 3) := by decide +kernel
theorem dX3_readHead_8 : decode cX3_readHead 8 = .ok (.aload_n 1, 1) := by decide +kernel
theorem dX3_readHead_9 : decode cX3_readHead 9 = .ok (.iload_n 2, 1) := by decide +kernel
theorem dX3_readHead_10 : decode cX3_readHead 10 = .ok (.iload_n 3, 1) := by decide +kernel
theorem dX3_readHead_11 : decode cX3_readHead 11 = .ok (.iadd, 1) := by decide +kernel
theorem dX3_readHead_12 : decode cX3_readHead 12 = .ok (.invokevirtual 98, 3) := by decide +kernel
theorem dX3_readHead_15 : decode cX3_readHead 15 = .ok (.aload_n 0, 1) := by decide +kernel
theorem dX3_readHead_16 : decode cX3_readHead 16 = .ok (.getfield 48, 3) := by decide +kernel
theorem dX3_readHead_19 : decode cX3_readHead 19 = .ok (.getfield 152, 3) := by decide +kernel
theorem dX3_readHead_22 : decode cX3_readHead 22 = .ok (.iload_n 3, 1) := by decide +kernel
theorem dX3_readHead_23 : decode cX3_readHead 23 = .ok (.iaload, 1) := by decide +kernel
theorem dX3_readHead_24 : decode cX3_readHead 24 = .ok (.if_icmp .eq 12, 3) := by decide +kernel
theorem dX3_readHead_27 : decode cX3_readHead 27 = .ok (.aload_n 0, 1) := by decide +kernel
theorem dX3_readHead_28 : decode cX3_readHead 28 = .ok (.iconst 3, 1) := by decide +kernel
theorem dX3_readHead_29 : decode cX3_readHead 29 = .ok (.iload_n 2, 1) := by decide +kernel
theorem dX3_readHead_30 : decode cX3_readHead 30 = .ok (.iload_n 3, 1) := by decide +kernel
theorem dX3_readHead_31 : decode cX3_readHead 31 = .ok (.iadd, 1) := by decide +kernel
theorem dX3_readHead_32 : decode cX3_readHead 32 = .ok (.invokevirtual 68, 3) := by decide +kernel
theorem dX3_readHead_35 : decode cX3_readHead 35 = .ok (.ireturn, 1) := by decide +kernel
theorem dX3_readHead_36 : decode cX3_readHead 36 = .ok (.iinc 3 1, 3) := by decide +kernel
theorem dX3_readHead_39 : decode cX3_readHead 39 = .ok (.goto (-37), 3) := by decide +kernel
theorem dX3_readHead_42 : decode cX3_readHead 42 = .ok (.iconst 1, 1) := by decide +kernel
theorem dX3_readHead_43 : decode cX3_readHead 43 = .ok (.ireturn, 1) := by decide +kernel
theorem dX3_readSize_0 : decode cX3_readSize 0 = .ok (.aload_n 1, 1) := by decide +kernel
theorem dX3_readSize_1 : decode cX3_readSize 1 = .ok (.iload_n 2, 1) := by decide +kernel
theorem dX3_readSize_2 : decode cX3_readSize 2 = .ok (.invokevirtual 102, 3) := by decide +kernel
theorem dX3_readSize_5 : decode cX3_readSize 5 = .ok (.istore_n 3, 1) := by decide +kernel
theorem dX3_readSize_6 : decode cX3_readSize 6 = .ok (.aload_n 0, 1) := by decide +kernel
theorem dX3_readSize_7 : decode cX3_readSize 7 = .ok (.getfield 48, 3) := by decide +kernel
theorem dX3_readSize_10 : decode cX3_readSize 10 = .ok (.iload_n 3, 1) := by decide +kernel
theorem dX3_readSize_11 : decode cX3_readSize 11 = .ok (.invokevirtual 158, 3) := by decide +kernel
theorem dX3_readSize_14 : decode cX3_readSize 14 = .ok (.ifCond .ne 11, 3) := by decide +kernel
theorem dX3_readSize_17 : decode cX3_readSize 17 = .ok (.aload_n 0, 1) := by decide +kernel
theorem dX3_readSize_18 : decode cX3_readSize 18 = .ok (.bipush 6, 2) := by decide +kernel
theorem dX3_readSize_20 : decode cX3_readSize 20 = .ok (.iload_n 2, 1) := by decide +kernel
theorem dX3_readSize_21 : decode cX3_readSize 21 = .ok (.invokevirtual 68, 3) := by decide +kernel
theorem dX3_readSize_24 : decode cX3_readSize 24 = .ok (.ireturn, 1) := by decide +kernel
theorem dX3_readSize_25 : decode cX3_readSize 25 = .ok (.aload_n 0, 1) := by decide +kernel
theorem dX3_readSize_26 : decode cX3_readSize 26 = .ok (.getfield 12, 3) := by decide +kernel
theorem dX3_readSize_29 : decode cX3_readSize 29 = .ok (.iload_n 3, 1) := by decide +kernel
theorem dX3_readSize_30 : decode cX3_readSize 30 = .ok (.putfield 161, 3) := by decide +kernel
theorem dX3_readSize_33 : decode cX3_readSize 33 = .ok (.iconst 1, 1) := by decide +kernel
theorem dX3_readSize_34 : decode cX3_readSize 34 = .ok (.ireturn, 1) := by decide +kernel
theorem dX3_readMemory_0 : decode cX3_readMemory 0 = .ok (.aload_n 0, 1) := by decide +kernel
theorem dX3_readMemory_1 : decode cX3_readMemory 1 = .ok (.getfield 48, 3) := by decide +kernel
theorem dX3_readMemory_4 : decode cX3_readMemory 4 = .ok (.getfield 162, 3) := by decide +kernel
theorem dX3_readMemory_7 : decode cX3_readMemory 7 = .ok (.istore 4, 2) := by decide +kernel
theorem dX3_readMemory_9 : decode cX3_readMemory 9 = .ok (.iconst 1, 1) := by decide +kernel
theorem dX3_readMemory_10 : decode cX3_readMemory 10 = .ok (.istore 5, 2) := by decide +kernel
theorem dX3_readMemory_12 : decode cX3_readMemory 12 = .ok (.iload_n 2, 1) := by decide +kernel
theorem dX3_readMemory_13 : decode cX3_readMemory 13 = .ok (.istore 6, 2) := by decide +kernel
theorem dX3_readMemory_15 : decode cX3_readMemory 15 = .ok (.iload 6, 2) := by decide +kernel
theorem dX3_readMemory_17 : decode cX3_readMemory 17 = .ok (.iload_n 3, 1) := by decide +kernel
theorem dX3_readMemory_18 : decode cX3_readMemory 18 = .ok (.if_icmp .ge 134, 3) := by decide +kernel
theorem dX3_readMemory_21 : decode cX3_readMemory 21 = .ok (.aload_n 1, 1) := by decide +kernel
theorem dX3_readMemory_22 : decode cX3_readMemory 22 = .ok (.iload 6, 2) := by decide +kernel
theorem dX3_readMemory_24 : decode cX3_readMemory 24 = .ok (.invokevirtual 98, 3) := by decide +kernel
theorem dX3_readMemory_27 : decode cX3_readMemory 27 = .ok (.istore 7, 2) := by decide +kernel
theorem dX3_readMemory_29 : decode cX3_readMemory 29 = .ok (.iload 7, 2) := by decide +kernel
theorem dX3_readMemory_31 : decode cX3_readMemory 31 = .ok (.ifCond .ne 7, 3) := by decide +kernel
theorem dX3_readMemory_34 : decode cX3_readMemory 34 = .ok (.iconst 2, 1) := by decide +kernel
theorem dX3_readMemory_35 : decode cX3_readMemory 35 = .ok (.goto 4, 3) := by decide +kernel
theorem dX3_readMemory_38 : decode cX3_readMemory 38 = .ok (.iconst 1, 1) := by decide +kernel
theorem dX3_readMemory_39 : decode cX3_readMemory 39 = .ok (.istore 5, 2) := by decide +kernel
theorem dX3_readMemory_41 : decode cX3_readMemory 41 = .ok (.iload 6, 2) := by decide +kernel
theorem dX3_readMemory_43 : decode cX3_readMemory 43 = .ok (.iload 5, 2) := by decide +kernel
theorem dX3_readMemory_45 : decode cX3_readMemory 45 = .ok (.iadd, 1) := by decide +kernel
theorem dX3_readMemory_46 : decode cX3_readMemory 46 = .ok (.iload_n 3, 1) := by decide +kernel
theorem dX3_readMemory_47 : decode cX3_readMemory 47 = .ok (.if_icmp .le 12, 3) := by decide +kernel
theorem dX3_readMemory_50 : decode cX3_readMemory 50 = .ok (.aload_n 0, 1) := by decide +kernel
theorem dX3_readMemory_51 : decode cX3_readMemory 51 = .ok (.bipush 6, 2) := by decide +kernel
theorem dX3_readMemory_53 : decode cX3_readMemory 53 = .ok (.iload 6, 2) := by decide +kernel
theorem dX3_readMemory_55 : decode cX3_readMemory 55 = .ok (.invokevirtual 68, 3) := by decide +kernel
theorem dX3_readMemory_58 : decode cX3_readMemory 58 = .ok (.ireturn, 1) := by decide +kernel
theorem dX3_readMemory_59 : decode cX3_readMemory 59 = .ok (.iload 7, 2) := by decide +kernel
theorem dX3_readMemory_61 : decode cX3_readMemory 61 = .ok (.ifCond .ne 16, 3) := by decide +kernel
theorem dX3_readMemory_64 : decode cX3_readMemory 64 = .ok (.aload_n 1, 1) := by decide +kernel
theorem dX3_readMemory_65 : decode cX3_readMemory 65 = .ok (.iload 6, 2) := by decide +kernel
theorem dX3_readMemory_67 : decode cX3_readMemory 67 = .ok (.iconst 1, 1) := by decide +kernel
theorem dX3_readMemory_68 : decode cX3_readMemory 68 = .ok (.iadd, 1) := by decide +kernel
theorem dX3_readMemory_69 : decode cX3_readMemory 69 = .ok (.invokevirtual 98, 3) := by decide +kernel
theorem dX3_readMemory_72 : decode cX3_readMemory 72 = .ok (.iconst 1, 1) := by decide +kernel
theorem dX3_readMemory_73 : decode cX3_readMemory 73 = .ok (.iadd, 1) := by decide +kernel
theorem dX3_readMemory_74 : decode cX3_readMemory 74 = .ok (.goto 4, 3) := by decide +kernel
theorem dX3_readMemory_77 : decode cX3_readMemory 77 = .ok (.iconst 1, 1) := by decide +kernel
theorem dX3_readMemory_78 : decode cX3_readMemory 78 = .ok (.istore 8, 2) := by decide +kernel
theorem dX3_readMemory_80 : decode cX3_readMemory 80 = .ok (.iload 4, 2) := by decide +kernel
theorem dX3_readMemory_82 : decode cX3_readMemory 82 = .ok (.ifCond .lt 29, 3) := by decide +kernel
theorem dX3_readMemory_85 : decode cX3_readMemory 85 = .ok (.iload 4, 2) := by decide +kernel
theorem dX3_readMemory_87 : decode cX3_readMemory 87 = .ok (.iload 8, 2) := by decide +kernel
theorem dX3_readMemory_89 : decode cX3_readMemory 89 = .ok (.iadd, 1) := by decide +kernel
theorem dX3_readMemory_90 : decode cX3_readMemory 90 = .ok (.aload_n 0, 1) := by decide +kernel
theorem dX3_readMemory_91 : decode cX3_readMemory 91 = .ok (.getfield 12, 3) := by decide +kernel
theorem dX3_readMemory_94 : decode cX3_readMemory 94 = .ok (.getfield 161, 3) := by decide +kernel
theorem dX3_readMemory_97 : decode cX3_readMemory 97 = .ok (.if_icmp .gt 14, 3) := by decide +kernel
theorem dX3_readMemory_100 : decode cX3_readMemory 100 = .ok (.iload 4, 2) := by decide +kernel
theorem dX3_readMemory_102 : decode cX3_readMemory 102 = .ok (.iload 8, 2) := by decide +kernel
theorem dX3_readMemory_104 : decode cX3_readMemory 104 = .ok (.iadd, 1) := by decide +kernel
theorem dX3_readMemory_105 : decode cX3_readMemory 105 = .ok (.sipush 512, 3) := by decide +kernel
theorem dX3_readMemory_108 : decode cX3_readMemory 108 = .ok (.if_icmp .le 12, 3) := by decide +kernel
theorem dX3_readMemory_111 : decode cX3_readMemory 111 = .ok (.aload_n 0, 1) := by decide +kernel
theorem dX3_readMemory_112 : decode cX3_readMemory 112 = .ok (.bipush 6, 2) := by decide +kernel
theorem dX3_readMemory_114 : decode cX3_readMemory 114 = .ok (.iload 6, 2) := by decide +kernel
theorem dX3_readMemory_116 : decode cX3_readMemory 116 = .ok (.invokevirtual 68, 3) := by decide +kernel
theorem dX3_readMemory_119 : decode cX3_readMemory 119 = .ok (.ireturn, 1) := by decide +kernel
theorem dX3_readMemory_120 : decode cX3_readMemory 120 = .ok (.aload_n 0, 1) := by decide +kernel
theorem dX3_readMemory_121 : decode cX3_readMemory 121 = .ok (.getfield 12, 3) := by decide +kernel
theorem dX3_readMemory_124 : decode cX3_readMemory 124 = .ok (.getfield 165, 3) := by decide +kernel
theorem dX3_readMemory_127 : decode cX3_readMemory 127 = .ok (.iload 4, 2) := by decide +kernel
theorem dX3_readMemory_129 : decode cX3_readMemory 129 = .ok (.dup2, 1) := by decide +kernel
theorem dX3_readMemory_130 : decode cX3_readMemory 130 = .ok (.iaload, 1) := by decide +kernel
theorem dX3_readMemory_131 : decode cX3_readMemory 131 = .ok (.iload 7, 2) := by decide +kernel
theorem dX3_readMemory_133 : decode cX3_readMemory 133 = .ok (.ixor, 1) := by decide +kernel
theorem dX3_readMemory_134 : decode cX3_readMemory 134 = .ok (.iastore, 1) := by decide +kernel
theorem dX3_readMemory_135 : decode cX3_readMemory 135 = .ok (.iload 4, 2) := by decide +kernel
theorem dX3_readMemory_137 : decode cX3_readMemory 137 = .ok (.iload 8, 2) := by decide +kernel
theorem dX3_readMemory_139 : decode cX3_readMemory 139 = .ok (.iadd, 1) := by decide +kernel
theorem dX3_readMemory_140 : decode cX3_readMemory 140 = .ok (.istore 4, 2) := by decide +kernel
theorem dX3_readMemory_142 : decode cX3_readMemory 142 = .ok (.iload 6, 2) := by decide +kernel
theorem dX3_readMemory_144 : decode cX3_readMemory 144 = .ok (.iload 5, 2) := by decide +kernel
theorem dX3_readMemory_146 : decode cX3_readMemory 146 = .ok (.iadd, 1) := by decide +kernel
theorem dX3_readMemory_147 : decode cX3_readMemory 147 = .ok (.istore 6, 2) := by decide +kernel
theorem dX3_readMemory_149 : decode cX3_readMemory 149 = .ok (.goto (-134), 3) := by decide +kernel
theorem dX3_readMemory_152 : decode cX3_readMemory 152 = .ok (.iconst 1, 1) := by decide +kernel
theorem dX3_readMemory_153 : decode cX3_readMemory 153 = .ok (.ireturn, 1) := by decide +kernel
theorem dX3_readStack_0 : decode cX3_readStack 0 = .ok (.iconst 0, 1) := by decide +kernel
theorem dX3_readStack_1 : decode cX3_readStack 1 = .ok (.istore 4, 2) := by decide +kernel
theorem dX3_readStack_3 : decode cX3_readStack 3 = .ok (.iload 4, 2) := by decide +kernel
theorem dX3_readStack_5 : decode cX3_readStack 5 = .ok (.iload_n 3, 1) := by decide +kernel
theorem dX3_readStack_6 : decode cX3_readStack 6 = .ok (.if_icmp .ge 27, 3) := by decide +kernel
theorem dX3_readStack_9 : decode cX3_readStack 9 = .ok (.aload_n 0, 1) := by decide +kernel
theorem dX3_readStack_10 : decode cX3_readStack 10 = .ok (.getfield 12, 3) := by decide +kernel
theorem dX3_readStack_13 : decode cX3_readStack 13 = .ok (.aload_n 1, 1) := by decide +kernel
theorem dX3_readStack_14 : decode cX3_readStack 14 = .ok (.iload_n 2, 1) := by decide +kernel
theorem dX3_readStack_15 : decode cX3_readStack 15 = .ok (.iconst 4, 1) := by decide +kernel
theorem dX3_readStack_16 : decode cX3_readStack 16 = .ok (.iload 4, 2) := by decide +kernel
theorem dX3_readStack_18 : decode cX3_readStack 18 = .ok (.imul, 1) := by decide +kernel
theorem dX3_readStack_19 : decode cX3_readStack 19 = .ok (.iadd, 1) := by decide +kernel
theorem dX3_readStack_20 : decode cX3_readStack 20 = .ok (.invokevirtual 102, 3) := by decide +kernel
theorem dX3_readStack_23 : decode cX3_readStack 23 = .ok (.invokevirtual 168, 3) := by decide +kernel
theorem dX3_readStack_26 : decode cX3_readStack 26 = .ok (.pop, 1) := by decide +kernel
theorem dX3_readStack_27 : decode cX3_readStack 27 = .ok (.iinc 4 1, 3) := by decide +kernel
theorem dX3_readStack_30 : decode cX3_readStack 30 = .ok (.goto (-27), 3) := by decide +kernel
theorem dX3_readStack_33 : decode cX3_readStack 33 = .ok (.iconst 1, 1) := by decide +kernel
theorem dX3_readStack_34 : decode cX3_readStack 34 = .ok (.ireturn, 1) := by decide +kernel
theorem dX3_readBlocks_0 : decode cX3_readBlocks 0 = .ok (.aload_n 1, 1) := by decide +kernel
theorem dX3_readBlocks_1 : decode cX3_readBlocks 1 = .ok (.iload_n 2, 1) := by decide +kernel
theorem dX3_readBlocks_2 : decode cX3_readBlocks 2 = .ok (.invokevirtual 102, 3) := by decide +kernel
theorem dX3_readBlocks_5 : decode cX3_readBlocks 5 = .ok (.iload_n 3, 1) := by decide +kernel
theorem dX3_readBlocks_6 : decode cX3_readBlocks 6 = .ok (.if_icmp .eq 11, 3) := by decide +kernel
theorem dX3_readBlocks_9 : decode cX3_readBlocks 9 = .ok (.aload_n 0, 1) := by decide +kernel
theorem dX3_readBlocks_10 : decode cX3_readBlocks 10 = .ok (.bipush 7, 2) := by decide +kernel
theorem dX3_readBlocks_12 : decode cX3_readBlocks 12 = .ok (.iload_n 2, 1) := by decide +kernel
theorem dX3_readBlocks_13 : decode cX3_readBlocks 13 = .ok (.invokevirtual 68, 3) := by decide +kernel
theorem dX3_readBlocks_16 : decode cX3_readBlocks 16 = .ok (.ireturn, 1) := by decide +kernel
theorem dX3_readBlocks_17 : decode cX3_readBlocks 17 = .ok (.iconst 0, 1) := by decide +kernel
theorem dX3_readBlocks_18 : decode cX3_readBlocks 18 = .ok (.istore 4, 2) := by decide +kernel
theorem dX3_readBlocks_20 : decode cX3_readBlocks 20 = .ok (.iload 4, 2) := by decide +kernel
theorem dX3_readBlocks_22 : decode cX3_readBlocks 22 = .ok (.iload_n 3, 1) := by decide +kernel
theorem dX3_readBlocks_23 : decode cX3_readBlocks 23 = .ok (.if_icmp .ge 96, 3) := by decide +kernel
theorem dX3_readBlocks_26 : decode cX3_readBlocks 26 = .ok (.iload_n 2, 1) := by decide +kernel
theorem dX3_readBlocks_27 : decode cX3_readBlocks 27 = .ok (.iconst 4, 1) := by decide +kernel
theorem dX3_readBlocks_28 : decode cX3_readBlocks 28 = .ok (.iadd, 1) := by decide +kernel
theorem dX3_readBlocks_29 : decode cX3_readBlocks 29 = .ok (.bipush 8, 2) := by decide +kernel
theorem dX3_readBlocks_31 : decode cX3_readBlocks 31 = .ok (.iload 4, 2) := by decide +kernel
theorem dX3_readBlocks_33 : decode cX3_readBlocks 33 = .ok (.imul, 1) := by decide +kernel
theorem dX3_readBlocks_34 : decode cX3_readBlocks 34 = .ok (.iadd, 1) := by decide +kernel
theorem dX3_readBlocks_35 : decode cX3_readBlocks 35 = .ok (.istore 5, 2) := by decide +kernel
theorem dX3_readBlocks_37 : decode cX3_readBlocks 37 = .ok (.aload_n 1, 1) := by decide +kernel
theorem dX3_readBlocks_38 : decode cX3_readBlocks 38 = .ok (.iload 5, 2) := by decide +kernel
theorem dX3_readBlocks_40 : decode cX3_readBlocks 40 = .ok (.invokevirtual 102, 3) := by decide +kernel
theorem dX3_readBlocks_43 : decode cX3_readBlocks 43 = .ok (.istore 6, 2) := by decide +kernel
theorem dX3_readBlocks_45 : decode cX3_readBlocks 45 = .ok (.aload_n 1, 1) := by decide +kernel
theorem dX3_readBlocks_46 : decode cX3_readBlocks 46 = .ok (.iload 5, 2) := by decide +kernel
theorem dX3_readBlocks_48 : decode cX3_readBlocks 48 = .ok (.iconst 4, 1) := by decide +kernel
theorem dX3_readBlocks_49 : decode cX3_readBlocks 49 = .ok (.iadd, 1) := by decide +kernel
theorem dX3_readBlocks_50 : decode cX3_readBlocks 50 = .ok (.invokevirtual 102, 3) := by decide +kernel
theorem dX3_readBlocks_53 : decode cX3_readBlocks 53 = .ok (.istore 7, 2) := by decide +kernel
theorem dX3_readBlocks_55 : decode cX3_readBlocks 55 = .ok (.aload_n 0, 1) := by decide +kernel
theorem dX3_readBlocks_56 : decode cX3_readBlocks 56 = .ok (.getfield 48, 3) := by decide +kernel
theorem dX3_readBlocks_59 : decode cX3_readBlocks 59 = .ok (.getfield 171, 3) := by decide +kernel
theorem dX3_readBlocks_62 : decode cX3_readBlocks 62 = .ok (.aload_n 0, 1) := by decide +kernel
theorem dX3_readBlocks_63 : decode cX3_readBlocks 63 = .ok (.getfield 12, 3) := by decide +kernel
theorem dX3_readBlocks_66 : decode cX3_readBlocks 66 = .ok (.invokevirtual 174, 3) := by decide +kernel
theorem dX3_readBlocks_69 : decode cX3_readBlocks 69 = .ok (.invokestatic 178, 3) := by decide +kernel
theorem dX3_readBlocks_72 : decode cX3_readBlocks 72 = .ok (.istore 8, 2) := by decide +kernel
theorem dX3_readBlocks_74 : decode cX3_readBlocks 74 = .ok (.aload_n 0, 1) := by decide +kernel
theorem dX3_readBlocks_75 : decode cX3_readBlocks 75 = .ok (.getfield 12, 3) := by decide +kernel
theorem dX3_readBlocks_78 : decode cX3_readBlocks 78 = .ok (.iload 6, 2) := by decide +kernel
theorem dX3_readBlocks_80 : decode cX3_readBlocks 80 = .ok (.iload 7, 2) := by decide +kernel
theorem dX3_readBlocks_82 : decode cX3_readBlocks 82 = .ok (.iload 8, 2) := by decide +kernel
theorem dX3_readBlocks_84 : decode cX3_readBlocks 84 = .ok (.invokevirtual 184, 3) := by decide +kernel
theorem dX3_readBlocks_87 : decode cX3_readBlocks 87 = .ok (.ifCond .eq 17, 3) := by decide +kernel
theorem dX3_readBlocks_90 : decode cX3_readBlocks 90 = .ok (.aload_n 0, 1) := by decide +kernel
theorem dX3_readBlocks_91 : decode cX3_readBlocks 91 = .ok (.getfield 12, 3) := by decide +kernel
theorem dX3_readBlocks_94 : decode cX3_readBlocks 94 = .ok (.iload 6, 2) := by decide +kernel
theorem dX3_readBlocks_96 : decode cX3_readBlocks 96 = .ok (.iload 7, 2) := by decide +kernel
theorem dX3_readBlocks_98 : decode cX3_readBlocks 98 = .ok (.invokevirtual 187, 3) := by decide +kernel
theorem dX3_readBlocks_101 : decode cX3_readBlocks 101 = .ok (.ifCond .ne 12, 3) := by decide +kernel
theorem dX3_readBlocks_104 : decode cX3_readBlocks 104 = .ok (.aload_n 0, 1) := by decide +kernel
theorem dX3_readBlocks_105 : decode cX3_readBlocks 105 = .ok (.bipush 7, 2) := by decide +kernel
theorem dX3_readBlocks_107 : decode cX3_readBlocks 107 = .ok (.iload 5, 2) := by decide +kernel
theorem dX3_readBlocks_109 : decode cX3_readBlocks 109 = .ok (.invokevirtual 68, 3) := by decide +kernel
theorem dX3_readBlocks_112 : decode cX3_readBlocks 112 = .ok (.ireturn, 1) := by decide +kernel
theorem dX3_readBlocks_113 : decode cX3_readBlocks 113 = .ok (.iinc 4 1, 3) := by decide +kernel
theorem dX3_readBlocks_116 : decode cX3_readBlocks 116 = .ok (.goto (-96), 3) := by decide +kernel
theorem dX3_readBlocks_119 : decode cX3_readBlocks 119 = .ok (.iconst 1, 1) := by decide +kernel
theorem dX3_readBlocks_120 : decode cX3_readBlocks 120 = .ok (.ireturn, 1) := by decide +kernel
theorem dX4_init_0 : decode cX4_init 0 = .ok (.aload_n 0, 1) := by decide +kernel
theorem dX4_init_1 : decode cX4_init 1 = .ok (.invokespecial 3, 3) := by decide +kernel
theorem dX4_init_4 : decode cX4_init 4 = .ok (.aload_n 0, 1) := by decide +kernel
theorem dX4_init_5 : decode cX4_init 5 = .ok (.sipush 512, 3) := by decide +kernel
theorem dX4_init_8 : decode cX4_init 8 = .ok (.newarray .int, 2) := by decide +kernel
theorem dX4_init_10 : decode cX4_init 10 = .ok (.putfield 9, 3) := by decide +kernel
theorem dX4_init_13 : decode cX4_init 13 = .ok (.aload_n 0, 1) := by decide +kernel
theorem dX4_init_14 : decode cX4_init 14 = .ok (.iload_n 2, 1) := by decide +kernel
theorem dX4_init_15 : decode cX4_init 15 = .ok (.bipush 16, 2) := by decide +kernel
theorem dX4_init_17 : decode cX4_init 17 = .ok (.bipush 96, 2) := by decide +kernel
theorem dX4_init_19 : decode cX4_init 19 = .ok (.bipush 16, 2) := by decide +kernel
theorem dX4_init_21 : decode cX4_init 21 = .ok (.invokestatic 15, 3) := by decide +kernel
theorem dX4_init_24 : decode cX4_init 24 = .ok (.ifCond .eq 7, 3) := by decide +kernel
theorem dX4_init_27 : decode cX4_init 27 = .ok (.iload_n 2, 1) := by decide +kernel
theorem dX4_init_28 : decode cX4_init 28 = .ok (.goto 5, 3) := by decide +kernel
theorem dX4_init_31 : decode cX4_init 31 = .ok (.bipush 16, 2) := by decide +kernel
theorem dX4_init_33 : decode cX4_init 33 = .ok (.putfield 19, 3) := by decide +kernel
theorem dX4_init_36 : decode cX4_init 36 = .ok (.aload_n 0, 1) := by decide +kernel
theorem dX4_init_37 : decode cX4_init 37 = .ok (.iload_n 3, 1) := by decide +kernel
theorem dX4_init_38 : decode cX4_init 38 = .ok (.sipush 128, 3) := by decide +kernel
theorem dX4_init_41 : decode cX4_init 41 = .ok (.sipush 256, 3) := by decide +kernel
theorem dX4_init_44 : decode cX4_init 44 = .ok (.bipush 32, 2) := by decide +kernel
theorem dX4_init_46 : decode cX4_init 46 = .ok (.invokestatic 15, 3) := by decide +kernel
theorem dX4_init_49 : decode cX4_init 49 = .ok (.ifCond .eq 7, 3) := by decide +kernel
theorem dX4_init_52 : decode cX4_init 52 = .ok (.iload_n 3, 1) := by decide +kernel
theorem dX4_init_53 : decode cX4_init 53 = .ok (.goto 6, 3) := by decide +kernel
theorem dX4_init_56 : decode cX4_init 56 = .ok (.sipush 128, 3) := by decide +kernel
theorem dX4_init_59 : decode cX4_init 59 = .ok (.putfield 23, 3) := by decide +kernel
theorem dX4_init_62 : decode cX4_init 62 = .ok (.iconst 0, 1) := by decide +kernel
theorem dX4_init_63 : decode cX4_init 63 = .ok (.istore 4, 2) := by decide +kernel
theorem dX4_init_65 : decode cX4_init 65 = .ok (.iload 4, 2) := by decide +kernel
theorem dX4_init_67 : decode cX4_init 67 = .ok (.aload_n 0, 1) := by decide +kernel
theorem dX4_init_68 : decode cX4_init 68 = .ok (.getfield 23, 3) := by decide +kernel
theorem dX4_init_71 : decode cX4_init 71 = .ok (.if_icmp .ge 49, 3) := by decide +kernel
theorem dX4_init_74 : decode cX4_init 74 = .ok (.iload 4, 2) := by decide +kernel
theorem dX4_init_76 : decode cX4_init 76 = .ok (.sipush 512, 3) := by decide +kernel
theorem dX4_init_79 : decode cX4_init 79 = .ok (.if_icmp .ge 41, 3) := by decide +kernel
theorem dX4_init_82 : decode cX4_init 82 = .ok (.aload_n 0, 1) := by decide +kernel
theorem dX4_init_83 : decode cX4_init 83 = .ok (.getfield 9, 3) := by decide +kernel
theorem dX4_init_86 : decode cX4_init 86 = .ok (.iload 4, 2) := by decide +kernel
theorem dX4_init_88 : decode cX4_init 88 = .ok (.bipush 37, 2) := by decide +kernel
theorem dX4_init_90 : decode cX4_init 90 = .ok (.iload 4, 2) := by decide +kernel
theorem dX4_init_92 : decode cX4_init 92 = .ok (.imul, 1) := by decide +kernel
theorem dX4_init_93 : decode cX4_init 93 = .ok (.iload_n 1, 1) := by decide +kernel
theorem dX4_init_94 : decode cX4_init 94 = .ok (.iload 4, 2) := by decide +kernel
theorem dX4_init_96 : decode cX4_init 96 = .ok (.bipush 16, 2) := by decide +kernel
theorem dX4_init_98 : decode cX4_init 98 = .ok (.idiv, 1) := by decide +kernel
theorem dX4_init_99 : decode cX4_init 99 = .ok (.iconst 1, 1) := by decide +kernel
theorem dX4_init_100 : decode cX4_init 100 = .ok (.iadd, 1) := by decide +kernel
theorem dX4_init_101 : decode cX4_init 101 = .ok (.imul, 1) := by decide +kernel
theorem dX4_init_102 : decode cX4_init 102 = .ok (.iadd, 1) := by decide +kernel
theorem dX4_init_103 : decode cX4_init 103 = .ok (.iload 4, 2) := by decide +kernel
theorem dX4_init_105 : decode cX4_init 105 = .ok (.bipush 7, 2) := by decide +kernel
theorem dX4_init_107 : decode cX4_init 107 = .ok (.idiv, 1) := by decide +kernel
theorem dX4_init_108 : decode cX4_init 108 = .ok (.iadd, 1) := by decide +kernel
theorem dX4_init_109 : decode cX4_init 109 = .ok (.sipush 255, 3) := by decide +kernel
theorem dX4_init_112 : decode cX4_init 112 = .ok (.iand, 1) := by decide +kernel
theorem dX4_init_113 : decode cX4_init 113 = .ok (.iastore, 1) := by decide +kernel
theorem dX4_init_114 : decode cX4_init 114 = .ok (.iinc 4 1, 3) := by decide +kernel
theorem dX4_init_117 : decode cX4_init 117 = .ok (.goto (-52), 3) := by decide +kernel
theorem dX4_init_120 : decode cX4_init 120 = .ok (.return_, 1) := by decide +kernel
theorem dX4_allowsSize_0 : decode cX4_allowsSize 0 = .ok (.iload_n 1, 1) := by decide +kernel
theorem dX4_allowsSize_1 : decode cX4_allowsSize 1 = .ok (.aload_n 0, 1) := by decide +kernel
theorem dX4_allowsSize_2 : decode cX4_allowsSize 2 = .ok (.getfield 23, 3) := by decide +kernel
theorem dX4_allowsSize_5 : decode cX4_allowsSize 5 = .ok (.sipush 512, 3) := by decide +kernel
theorem dX4_allowsSize_8 : decode cX4_allowsSize 8 = .ok (.bipush 32, 2) := by decide +kernel
theorem dX4_allowsSize_10 : decode cX4_allowsSize 10 = .ok (.invokestatic 15, 3) := by decide +kernel
theorem dX4_allowsSize_13 : decode cX4_allowsSize 13 = .ok (.ireturn, 1) := by decide +kernel
theorem dX4_inSteps_0 : decode cX4_inSteps 0 = .ok (.iload_n 0, 1) := by decide +kernel
theorem dX4_inSteps_1 : decode cX4_inSteps 1 = .ok (.iload_n 1, 1) := by decide +kernel
theorem dX4_inSteps_2 : decode cX4_inSteps 2 = .ok (.if_icmp .lt 22, 3) := by decide +kernel
theorem dX4_inSteps_5 : decode cX4_inSteps 5 = .ok (.iload_n 0, 1) := by decide +kernel
theorem dX4_inSteps_6 : decode cX4_inSteps 6 = .ok (.iload_n 2, 1) := by decide +kernel
theorem dX4_inSteps_7 : decode cX4_inSteps 7 = .ok (.if_icmp .gt 17, 3) := by decide +kernel
theorem dX4_inSteps_10 : decode cX4_inSteps 10 = .ok (.iload_n 3, 1) := by decide +kernel
theorem dX4_inSteps_11 : decode cX4_inSteps 11 = .ok (.ifCond .le 13, 3) := by decide +kernel
theorem dX4_inSteps_14 : decode cX4_inSteps 14 = .ok (.iload_n 0, 1) := by decide +kernel
theorem dX4_inSteps_15 : decode cX4_inSteps 15 = .ok (.iload_n 3, 1) := by decide +kernel
theorem dX4_inSteps_16 : decode cX4_inSteps 16 = .ok (.irem, 1) := by decide +kernel
theorem dX4_inSteps_17 : decode cX4_inSteps 17 = .ok (.ifCond .ne 7, 3) := by decide +kernel
theorem dX4_inSteps_20 : decode cX4_inSteps 20 = .ok (.iconst 1, 1) := by decide +kernel
theorem dX4_inSteps_21 : decode cX4_inSteps 21 = .ok (.goto 4, 3) := by decide +kernel
theorem dX4_inSteps_24 : decode cX4_inSteps 24 = .ok (.iconst 0, 1) := by decide +kernel
theorem dX4_inSteps_25 : decode cX4_inSteps 25 = .ok (.ireturn, 1) := by decide +kernel
theorem dX5_init_0 : decode cX5_init 0 = .ok (.aload_n 0, 1) := by decide +kernel
theorem dX5_init_1 : decode cX5_init 1 = .ok (.invokespecial 3, 3) := by decide +kernel
theorem dX5_init_4 : decode cX5_init 4 = .ok (.aload_n 0, 1) := by decide +kernel
theorem dX5_init_5 : decode cX5_init 5 = .ok (.iconst 3, 1) := by decide +kernel
theorem dX5_init_6 : decode cX5_init 6 = .ok (.anewarray 9, 3) := by decide +kernel
theorem dX5_init_9 : decode cX5_init 9 = .ok (.putfield 11, 3) := by decide +kernel
theorem dX5_init_12 : decode cX5_init 12 = .ok (.aload_n 0, 1) := by decide +kernel
theorem dX5_init_13 : decode cX5_init 13 = .ok (.iconst 0, 1) := by decide +kernel
theorem dX5_init_14 : decode cX5_init 14 = .ok (.putfield 17, 3) := by decide +kernel
theorem dX5_init_17 : decode cX5_init 17 = .ok (.iconst 0, 1) := by decide +kernel
theorem dX5_init_18 : decode cX5_init 18 = .ok (.istore_n 1, 1) := by decide +kernel
theorem dX5_init_19 : decode cX5_init 19 = .ok (.iload_n 1, 1) := by decide +kernel
theorem dX5_init_20 : decode cX5_init 20 = .ok (.iconst 3, 1) := by decide +kernel
theorem dX5_init_21 : decode cX5_init 21 = .ok (.if_icmp .ge 22, 3) := by decide +kernel
theorem dX5_init_24 : decode cX5_init 24 = .ok (.aload_n 0, 1) := by decide +kernel
theorem dX5_init_25 : decode cX5_init 25 = .ok (.getfield 11, 3) := by decide +kernel
theorem dX5_init_28 : decode cX5_init 28 = .ok (.iload_n 1, 1) := by decide +kernel
theorem dX5_init_29 : decode cX5_init 29 = .ok (.new 9, 3) := by decide +kernel
theorem dX5_init_32 : decode cX5_init 32 = .ok (.dup, 1) := by decide +kernel
theorem dX5_init_33 : decode cX5_init 33 = .ok (.invokespecial 21, 3) := by decide +kernel
theorem dX5_init_36 : decode cX5_init 36 = .ok (.aastore, 1) := by decide +kernel
theorem dX5_init_37 : decode cX5_init 37 = .ok (.iinc 1 1, 3) := by decide +kernel
theorem dX5_init_40 : decode cX5_init 40 = .ok (.goto (-21), 3) := by decide +kernel
theorem dX5_init_43 : decode cX5_init 43 = .ok (.return_, 1) := by decide +kernel
theorem dX5_keep_0 : decode cX5_keep 0 = .ok (.aload_n 0, 1) := by decide +kernel
theorem dX5_keep_1 : decode cX5_keep 1 = .ok (.getfield 17, 3) := by decide +kernel
theorem dX5_keep_4 : decode cX5_keep 4 = .ok (.iconst 3, 1) := by decide +kernel
theorem dX5_keep_5 : decode cX5_keep 5 = .ok (.if_icmp .lt 7, 3) := by decide +kernel
theorem dX5_keep_8 : decode cX5_keep 8 = .ok (.aload_n 0, 1) := by decide +kernel
theorem dX5_keep_9 : decode cX5_keep 9 = .ok (.invokevirtual 22, 3) := by decide +kernel
theorem dX5_keep_12 : decode cX5_keep 12 = .ok (.aload_n 0, 1) := by decide +kernel
theorem dX5_keep_13 : decode cX5_keep 13 = .ok (.getfield 11, 3) := by decide +kernel
theorem dX5_keep_16 : decode cX5_keep 16 = .ok (.aload_n 0, 1) := by decide +kernel
theorem dX5_keep_17 : decode cX5_keep 17 = .ok (.getfield 17, 3) := by decide +kernel
theorem dX5_keep_20 : decode cX5_keep 20 = .ok (.aaload, 1) := by decide +kernel
theorem dX5_keep_21 : decode cX5_keep 21 = .ok (.aload_n 1, 1) := by decide +kernel
theorem dX5_keep_22 : decode cX5_keep 22 = .ok (.iconst 0, 1) := by decide +kernel
theorem dX5_keep_23 : decode cX5_keep 23 = .ok (.iconst 0, 1) := by decide +kernel
theorem dX5_keep_24 : decode cX5_keep 24 = .ok (.invokevirtual 25, 3) := by decide +kernel
theorem dX5_keep_27 : decode cX5_keep 27 = .ok (.aload_n 0, 1) := by decide +kernel
theorem dX5_keep_28 : decode cX5_keep 28 = .ok (.dup, 1) := by decide +kernel
theorem dX5_keep_29 : decode cX5_keep 29 = .ok (.getfield 17, 3) := by decide +kernel
theorem dX5_keep_32 : decode cX5_keep 32 = .ok (.iconst 1, 1) := by decide +kernel
theorem dX5_keep_33 : decode cX5_keep 33 = .ok (.iadd, 1) := by decide +kernel
theorem dX5_keep_34 : decode cX5_keep 34 = .ok (.putfield 17, 3) := by decide +kernel
theorem dX5_keep_37 : decode cX5_keep 37 = .ok (.return_, 1) := by decide +kernel
theorem dX5_takeLatest_0 : decode cX5_takeLatest 0 = .ok (.aload_n 0, 1) := by decide +kernel
theorem dX5_takeLatest_1 : decode cX5_takeLatest 1 = .ok (.getfield 17, 3) := by decide +kernel
theorem dX5_takeLatest_4 : decode cX5_takeLatest 4 = .ok (.ifCond .gt 5, 3) := by decide +kernel
theorem dX5_takeLatest_7 : decode cX5_takeLatest 7 = .ok (.aconst_null, 1) := by decide +kernel
theorem dX5_takeLatest_8 : decode cX5_takeLatest 8 = .ok (.areturn, 1) := by decide +kernel
theorem dX5_takeLatest_9 : decode cX5_takeLatest 9 = .ok (.aload_n 0, 1) := by decide +kernel
theorem dX5_takeLatest_10 : decode cX5_takeLatest 10 = .ok (.dup, 1) := by decide +kernel
theorem dX5_takeLatest_11 : decode cX5_takeLatest 11 = .ok (.getfield 17, 3) := by decide +kernel
theorem dX5_takeLatest_14 : decode cX5_takeLatest 14 = .ok (.iconst 1, 1) := by decide +kernel
theorem dX5_takeLatest_15 : decode cX5_takeLatest 15 = .ok (.isub, 1) := by decide +kernel
theorem dX5_takeLatest_16 : decode cX5_takeLatest 16 = .ok (.putfield 17, 3) := by decide +kernel
theorem dX5_takeLatest_19 : decode cX5_takeLatest 19 = .ok (.aload_n 0, 1) := by decide +kernel
theorem dX5_takeLatest_20 : decode cX5_takeLatest 20 = .ok (.getfield 11, 3) := by decide +kernel
theorem dX5_takeLatest_23 : decode cX5_takeLatest 23 = .ok (.aload_n 0, 1) := by decide +kernel
theorem dX5_takeLatest_24 : decode cX5_takeLatest 24 = .ok (.getfield 17, 3) := by decide +kernel
theorem dX5_takeLatest_27 : decode cX5_takeLatest 27 = .ok (.aaload, 1) := by decide +kernel
theorem dX5_takeLatest_28 : decode cX5_takeLatest 28 = .ok (.areturn, 1) := by decide +kernel
theorem dX5_dropEldest_0 : decode cX5_dropEldest 0 = .ok (.aload_n 0, 1) := by decide +kernel
theorem dX5_dropEldest_1 : decode cX5_dropEldest 1 = .ok (.getfield 11, 3) := by decide +kernel
theorem dX5_dropEldest_4 : decode cX5_dropEldest 4 = .ok (.iconst 0, 1) := by decide +kernel
theorem dX5_dropEldest_5 : decode cX5_dropEldest 5 = .ok (.aaload, 1) := by decide +kernel
theorem dX5_dropEldest_6 : decode cX5_dropEldest 6 = .ok (.astore_n 1, 1) := by decide +kernel
theorem dX5_dropEldest_7 : decode cX5_dropEldest 7 = .ok (.iconst 1, 1) := by decide +kernel
theorem dX5_dropEldest_8 : decode cX5_dropEldest 8 = .ok (.istore_n 2, 1) := by decide +kernel
theorem dX5_dropEldest_9 : decode cX5_dropEldest 9 = .ok (.iload_n 2, 1) := by decide +kernel
theorem dX5_dropEldest_10 : decode cX5_dropEldest 10 = .ok (.iconst 3, 1) := by decide +kernel
theorem dX5_dropEldest_11 : decode cX5_dropEldest 11 = .ok (.if_icmp .ge 23, 3) := by decide +kernel
theorem dX5_dropEldest_14 : decode cX5_dropEldest 14 = .ok (.aload_n 0, 1) := by decide +kernel
theorem dX5_dropEldest_15 : decode cX5_dropEldest 15 = .ok (.getfield 11, 3) := by decide +kernel
theorem dX5_dropEldest_18 : decode cX5_dropEldest 18 = .ok (.iload_n 2, 1) := by decide +kernel
theorem dX5_dropEldest_19 : decode cX5_dropEldest 19 = .ok (.iconst 1, 1) := by decide +kernel
theorem dX5_dropEldest_20 : decode cX5_dropEldest 20 = .ok (.isub, 1) := by decide +kernel
theorem dX5_dropEldest_21 : decode cX5_dropEldest 21 = .ok (.aload_n 0, 1) := by decide +kernel
theorem dX5_dropEldest_22 : decode cX5_dropEldest 22 = .ok (.getfield 11, 3) := by decide +kernel
theorem dX5_dropEldest_25 : decode cX5_dropEldest 25 = .ok (.iload_n 2, 1) := by decide +kernel
theorem dX5_dropEldest_26 : decode cX5_dropEldest 26 = .ok (.aaload, 1) := by decide +kernel
theorem dX5_dropEldest_27 : decode cX5_dropEldest 27 = .ok (.aastore, 1) := by decide +kernel
theorem dX5_dropEldest_28 : decode cX5_dropEldest 28 = .ok (.iinc 2 1, 3) := by decide +kernel
theorem dX5_dropEldest_31 : decode cX5_dropEldest 31 = .ok (.goto (-22), 3) := by decide +kernel
theorem dX5_dropEldest_34 : decode cX5_dropEldest 34 = .ok (.aload_n 0, 1) := by decide +kernel
theorem dX5_dropEldest_35 : decode cX5_dropEldest 35 = .ok (.getfield 11, 3) := by decide +kernel
theorem dX5_dropEldest_38 : decode cX5_dropEldest 38 = .ok (.iconst 2, 1) := by decide +kernel
theorem dX5_dropEldest_39 : decode cX5_dropEldest 39 = .ok (.aload_n 1, 1) := by decide +kernel
theorem dX5_dropEldest_40 : decode cX5_dropEldest 40 = .ok (.aastore, 1) := by decide +kernel
theorem dX5_dropEldest_41 : decode cX5_dropEldest 41 = .ok (.aload_n 0, 1) := by decide +kernel
theorem dX5_dropEldest_42 : decode cX5_dropEldest 42 = .ok (.dup, 1) := by decide +kernel
theorem dX5_dropEldest_43 : decode cX5_dropEldest 43 = .ok (.getfield 17, 3) := by decide +kernel
theorem dX5_dropEldest_46 : decode cX5_dropEldest 46 = .ok (.iconst 1, 1) := by decide +kernel
theorem dX5_dropEldest_47 : decode cX5_dropEldest 47 = .ok (.isub, 1) := by decide +kernel
theorem dX5_dropEldest_48 : decode cX5_dropEldest 48 = .ok (.putfield 17, 3) := by decide +kernel
theorem dX5_dropEldest_51 : decode cX5_dropEldest 51 = .ok (.return_, 1) := by decide +kernel
theorem dX6_writeFile_0 : decode cX6_writeFile 0 = .ok (.aload_n 0, 1) := by decide +kernel
theorem dX6_writeFile_1 : decode cX6_writeFile 1 = .ok (.ldc 9, 2) := by decide +kernel
theorem dX6_writeFile_3 : decode cX6_writeFile 3 = .ok (.invokevirtual 10, 3) := by decide +kernel
theorem dX6_writeFile_6 : decode cX6_writeFile 6 = .ok (.aload_n 0, 1) := by decide +kernel
theorem dX6_writeFile_7 : decode cX6_writeFile 7 = .ok (.iconst 0, 1) := by decide +kernel
theorem dX6_writeFile_8 : decode cX6_writeFile 8 = .ok (.invokevirtual 10, 3) := by decide +kernel
theorem dX6_writeFile_11 : decode cX6_writeFile 11 = .ok (.aload_n 0, 1) := by decide +kernel
theorem dX6_writeFile_12 : decode cX6_writeFile 12 = .ok (.ldc 16, 2) := by decide +kernel
theorem dX6_writeFile_14 : decode cX6_writeFile 14 = .ok (.invokevirtual 10, 3) := by decide +kernel
theorem dX6_writeFile_17 : decode cX6_writeFile 17 = .ok (.aload_n 0, 1) := by decide +kernel
theorem dX6_writeFile_18 : decode cX6_writeFile 18 = .ok (.aload_n 1, 1) := by decide +kernel
theorem dX6_writeFile_19 : decode cX6_writeFile 19 = .ok (.invokestatic 17, 3) := by decide +kernel
theorem dX6_writeFile_22 : decode cX6_writeFile 22 = .ok (.aload_n 0, 1) := by decide +kernel
theorem dX6_writeFile_23 : decode cX6_writeFile 23 = .ok (.aload_n 1, 1) := by decide +kernel
theorem dX6_writeFile_24 : decode cX6_writeFile 24 = .ok (.aload_n 2, 1) := by decide +kernel
theorem dX6_writeFile_25 : decode cX6_writeFile 25 = .ok (.invokestatic 23, 3) := by decide +kernel
theorem dX6_writeFile_28 : decode cX6_writeFile 28 = .ok (.aload_n 0, 1) := by decide +kernel
theorem dX6_writeFile_29 : decode cX6_writeFile 29 = .ok (.aload_n 2, 1) := by decide +kernel
theorem dX6_writeFile_30 : decode cX6_writeFile 30 = .ok (.invokestatic 27, 3) := by decide +kernel
theorem dX6_writeFile_33 : decode cX6_writeFile 33 = .ok (.aload_n 2, 1) := by decide +kernel
theorem dX6_writeFile_34 : decode cX6_writeFile 34 = .ok (.getfield 31, 3) := by decide +kernel
theorem dX6_writeFile_37 : decode cX6_writeFile 37 = .ok (.ifCond .le 8, 3) := by decide +kernel
theorem dX6_writeFile_40 : decode cX6_writeFile 40 = .ok (.aload_n 0, 1) := by decide +kernel
theorem dX6_writeFile_41 : decode cX6_writeFile 41 = .ok (.aload_n 2, 1) := by decide +kernel
