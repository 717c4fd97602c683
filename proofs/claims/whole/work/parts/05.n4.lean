theorem dX6_writeFile_42 : decode cX6_writeFile 42 = .ok (.invokestatic 37, 3) := by decide +kernel
theorem dX6_writeFile_45 : decode cX6_writeFile 45 = .ok (.aload_n 0, 1) := by decide +kernel
theorem dX6_writeFile_46 : decode cX6_writeFile 46 = .ok (.aload_n 3, 1) := by decide +kernel
theorem dX6_writeFile_47 : decode cX6_writeFile 47 = .ok (.invokestatic 40, 3) := by decide +kernel
theorem dX6_writeFile_50 : decode cX6_writeFile 50 = .ok (.aload_n 0, 1) := by decide +kernel
theorem dX6_writeFile_51 : decode cX6_writeFile 51 = .ok (.iconst 4, 1) := by decide +kernel
theorem dX6_writeFile_52 : decode cX6_writeFile 52 = .ok (.aload_n 0, 1) := by decide +kernel
theorem dX6_writeFile_53 : decode cX6_writeFile 53 = .ok (.getfield 44, 3) := by decide +kernel
theorem dX6_writeFile_56 : decode cX6_writeFile 56 = .ok (.bipush 8, 2) := by decide +kernel
theorem dX6_writeFile_58 : decode cX6_writeFile 58 = .ok (.isub, 1) := by decide +kernel
theorem dX6_writeFile_59 : decode cX6_writeFile 59 = .ok (.invokevirtual 47, 3) := by decide +kernel
theorem dX6_writeFile_62 : decode cX6_writeFile 62 = .ok (.return_, 1) := by decide +kernel
theorem dX6_openChunk_0 : decode cX6_openChunk 0 = .ok (.aload_n 0, 1) := by decide +kernel
theorem dX6_openChunk_1 : decode cX6_openChunk 1 = .ok (.getfield 44, 3) := by decide +kernel
theorem dX6_openChunk_4 : decode cX6_openChunk 4 = .ok (.istore_n 2, 1) := by decide +kernel
theorem dX6_openChunk_5 : decode cX6_openChunk 5 = .ok (.aload_n 0, 1) := by decide +kernel
theorem dX6_openChunk_6 : decode cX6_openChunk 6 = .ok (.iload_n 1, 1) := by decide +kernel
theorem dX6_openChunk_7 : decode cX6_openChunk 7 = .ok (.invokevirtual 10, 3) := by decide +kernel
theorem dX6_openChunk_10 : decode cX6_openChunk 10 = .ok (.aload_n 0, 1) := by decide +kernel
theorem dX6_openChunk_11 : decode cX6_openChunk 11 = .ok (.iconst 0, 1) := by decide +kernel
theorem dX6_openChunk_12 : decode cX6_openChunk 12 = .ok (.invokevirtual 10, 3) := by decide +kernel
theorem dX6_openChunk_15 : decode cX6_openChunk 15 = .ok (.iload_n 2, 1) := by decide +kernel
theorem dX6_openChunk_16 : decode cX6_openChunk 16 = .ok (.ireturn, 1) := by decide +kernel
theorem dX6_closeChunk_0 : decode cX6_closeChunk 0 = .ok (.aload_n 0, 1) := by decide +kernel
theorem dX6_closeChunk_1 : decode cX6_closeChunk 1 = .ok (.getfield 44, 3) := by decide +kernel
theorem dX6_closeChunk_4 : decode cX6_closeChunk 4 = .ok (.iload_n 1, 1) := by decide +kernel
theorem dX6_closeChunk_5 : decode cX6_closeChunk 5 = .ok (.isub, 1) := by decide +kernel
theorem dX6_closeChunk_6 : decode cX6_closeChunk 6 = .ok (.bipush 8, 2) := by decide +kernel
theorem dX6_closeChunk_8 : decode cX6_closeChunk 8 = .ok (.isub, 1) := by decide +kernel
theorem dX6_closeChunk_9 : decode cX6_closeChunk 9 = .ok (.istore_n 2, 1) := by decide +kernel
theorem dX6_closeChunk_10 : decode cX6_closeChunk 10 = .ok (.aload_n 0, 1) := by decide +kernel
theorem dX6_closeChunk_11 : decode cX6_closeChunk 11 = .ok (.iload_n 1, 1) := by decide +kernel
theorem dX6_closeChunk_12 : decode cX6_closeChunk 12 = .ok (.iconst 4, 1) := by decide +kernel
theorem dX6_closeChunk_13 : decode cX6_closeChunk 13 = .ok (.iadd, 1) := by decide +kernel
theorem dX6_closeChunk_14 : decode cX6_closeChunk 14 = .ok (.iload_n 2, 1) := by decide +kernel
theorem dX6_closeChunk_15 : decode cX6_closeChunk 15 = .ok (.invokevirtual 47, 3) := by decide +kernel
theorem dX6_closeChunk_18 : decode cX6_closeChunk 18 = .ok (.iload_n 2, 1) := by decide +kernel
theorem dX6_closeChunk_19 : decode cX6_closeChunk 19 = .ok (.iconst 1, 1) := by decide +kernel
theorem dX6_closeChunk_20 : decode cX6_closeChunk 20 = .ok (.iand, 1) := by decide +kernel
theorem dX6_closeChunk_21 : decode cX6_closeChunk 21 = .ok (.ifCond .eq 8, 3) := by decide +kernel
theorem dX6_closeChunk_24 : decode cX6_closeChunk 24 = .ok (.aload_n 0, 1) := by decide +kernel
theorem dX6_closeChunk_25 : decode cX6_closeChunk 25 = .ok (.iconst 0, 1) := by decide +kernel
theorem dX6_closeChunk_26 : decode cX6_closeChunk 26 = .ok (.invokevirtual 51, 3) := by decide +kernel
theorem dX6_closeChunk_29 : decode cX6_closeChunk 29 = .ok (.return_, 1) := by decide +kernel
theorem dX6_writeHead_0 : decode cX6_writeHead 0 = .ok (.aload_n 0, 1) := by decide +kernel
theorem dX6_writeHead_1 : decode cX6_writeHead 1 = .ok (.ldc 54, 2) := by decide +kernel
theorem dX6_writeHead_3 : decode cX6_writeHead 3 = .ok (.invokestatic 55, 3) := by decide +kernel
theorem dX6_writeHead_6 : decode cX6_writeHead 6 = .ok (.istore_n 2, 1) := by decide +kernel
theorem dX6_writeHead_7 : decode cX6_writeHead 7 = .ok (.iconst 0, 1) := by decide +kernel
theorem dX6_writeHead_8 : decode cX6_writeHead 8 = .ok (.istore_n 3, 1) := by decide +kernel
theorem dX6_writeHead_9 : decode cX6_writeHead 9 = .ok (.iload_n 3, 1) := by decide +kernel
theorem dX6_writeHead_10 : decode cX6_writeHead 10 = .ok (.bipush 16, 2) := by decide +kernel
theorem dX6_writeHead_12 : decode cX6_writeHead 12 = .ok (.if_icmp .ge 19, 3) := by decide +kernel
theorem dX6_writeHead_15 : decode cX6_writeHead 15 = .ok (.aload_n 0, 1) := by decide +kernel
theorem dX6_writeHead_16 : decode cX6_writeHead 16 = .ok (.aload_n 1, 1) := by decide +kernel
theorem dX6_writeHead_17 : decode cX6_writeHead 17 = .ok (.getfield 59, 3) := by decide +kernel
theorem dX6_writeHead_20 : decode cX6_writeHead 20 = .ok (.iload_n 3, 1) := by decide +kernel
theorem dX6_writeHead_21 : decode cX6_writeHead 21 = .ok (.iaload, 1) := by decide +kernel
theorem dX6_writeHead_22 : decode cX6_writeHead 22 = .ok (.invokevirtual 51, 3) := by decide +kernel
theorem dX6_writeHead_25 : decode cX6_writeHead 25 = .ok (.iinc 3 1, 3) := by decide +kernel
theorem dX6_writeHead_28 : decode cX6_writeHead 28 = .ok (.goto (-19), 3) := by decide +kernel
theorem dX6_writeHead_31 : decode cX6_writeHead 31 = .ok (.aload_n 0, 1) := by decide +kernel
theorem dX6_writeHead_32 : decode cX6_writeHead 32 = .ok (.iload_n 2, 1) := by decide +kernel
theorem dX6_writeHead_33 : decode cX6_writeHead 33 = .ok (.invokestatic 65, 3) := by decide +kernel
theorem dX6_writeHead_36 : decode cX6_writeHead 36 = .ok (.return_, 1) := by decide +kernel
theorem dX6_writeMemory_0 : decode cX6_writeMemory 0 = .ok (.aload_n 0, 1) := by decide +kernel
theorem dX6_writeMemory_1 : decode cX6_writeMemory 1 = .ok (.ldc 69, 2) := by decide +kernel
theorem dX6_writeMemory_3 : decode cX6_writeMemory 3 = .ok (.invokestatic 55, 3) := by decide +kernel
theorem dX6_writeMemory_6 : decode cX6_writeMemory 6 = .ok (.istore_n 3, 1) := by decide +kernel
theorem dX6_writeMemory_7 : decode cX6_writeMemory 7 = .ok (.aload_n 0, 1) := by decide +kernel
theorem dX6_writeMemory_8 : decode cX6_writeMemory 8 = .ok (.aload_n 2, 1) := by decide +kernel
theorem dX6_writeMemory_9 : decode cX6_writeMemory 9 = .ok (.getfield 70, 3) := by decide +kernel
theorem dX6_writeMemory_12 : decode cX6_writeMemory 12 = .ok (.invokevirtual 10, 3) := by decide +kernel
theorem dX6_writeMemory_15 : decode cX6_writeMemory 15 = .ok (.iconst 0, 1) := by decide +kernel
theorem dX6_writeMemory_16 : decode cX6_writeMemory 16 = .ok (.istore 4, 2) := by decide +kernel
theorem dX6_writeMemory_18 : decode cX6_writeMemory 18 = .ok (.aload_n 1, 1) := by decide +kernel
theorem dX6_writeMemory_19 : decode cX6_writeMemory 19 = .ok (.getfield 71, 3) := by decide +kernel
theorem dX6_writeMemory_22 : decode cX6_writeMemory 22 = .ok (.istore 5, 2) := by decide +kernel
theorem dX6_writeMemory_24 : decode cX6_writeMemory 24 = .ok (.iload 5, 2) := by decide +kernel
theorem dX6_writeMemory_26 : decode cX6_writeMemory 26 = .ok (.aload_n 2, 1) := by decide +kernel
theorem dX6_writeMemory_27 : decode cX6_writeMemory 27 = .ok (.getfield 70, 3) := by decide +kernel
theorem dX6_writeMemory_30 : decode cX6_writeMemory 30 = .ok (.if_icmp .ge 60, 3) := by decide +kernel
theorem dX6_writeMemory_33 : decode cX6_writeMemory 33 = .ok (.iload 5, 2) := by decide +kernel
theorem dX6_writeMemory_35 : decode cX6_writeMemory 35 = .ok (.sipush 512, 3) := by decide +kernel
theorem dX6_writeMemory_38 : decode cX6_writeMemory 38 = .ok (.if_icmp .ge 52, 3) := by decide +kernel
theorem dX6_writeMemory_41 : decode cX6_writeMemory 41 = .ok (.aload_n 2, 1) := by decide +kernel
theorem dX6_writeMemory_42 : decode cX6_writeMemory 42 = .ok (.getfield 74, 3) := by decide +kernel
theorem dX6_writeMemory_45 : decode cX6_writeMemory 45 = .ok (.iload 5, 2) := by decide +kernel
theorem dX6_writeMemory_47 : decode cX6_writeMemory 47 = .ok (.iaload, 1) := by decide +kernel
theorem dX6_writeMemory_48 : decode cX6_writeMemory 48 = .ok (.aload_n 1, 1) := by decide +kernel
theorem dX6_writeMemory_49 : decode cX6_writeMemory 49 = .ok (.getfield 59, 3) := by decide +kernel
theorem dX6_writeMemory_52 : decode cX6_writeMemory 52 = .ok (.iload 5, 2) := by decide +kernel
theorem dX6_writeMemory_54 : decode cX6_writeMemory 54 = .ok (.iaload, 1) := by decide +kernel
theorem dX6_writeMemory_55 : decode cX6_writeMemory 55 = .ok (.ixor, 1) := by decide +kernel
theorem dX6_writeMemory_56 : decode cX6_writeMemory 56 = .ok (.istore 6, 2) := by decide +kernel
theorem dX6_writeMemory_58 : decode cX6_writeMemory 58 = .ok (.iload 6, 2) := by decide +kernel
theorem dX6_writeMemory_60 : decode cX6_writeMemory 60 = .ok (.ifCond .ne 9, 3) := by decide +kernel
theorem dX6_writeMemory_63 : decode cX6_writeMemory 63 = .ok (.iinc 4 1, 3) := by decide +kernel
theorem dX6_writeMemory_66 : decode cX6_writeMemory 66 = .ok (.goto 18, 3) := by decide +kernel
theorem dX6_writeMemory_69 : decode cX6_writeMemory 69 = .ok (.aload_n 0, 1) := by decide +kernel
theorem dX6_writeMemory_70 : decode cX6_writeMemory 70 = .ok (.iload 4, 2) := by decide +kernel
theorem dX6_writeMemory_72 : decode cX6_writeMemory 72 = .ok (.invokestatic 77, 3) := by decide +kernel
theorem dX6_writeMemory_75 : decode cX6_writeMemory 75 = .ok (.aload_n 0, 1) := by decide +kernel
theorem dX6_writeMemory_76 : decode cX6_writeMemory 76 = .ok (.iload 6, 2) := by decide +kernel
theorem dX6_writeMemory_78 : decode cX6_writeMemory 78 = .ok (.invokevirtual 51, 3) := by decide +kernel
theorem dX6_writeMemory_81 : decode cX6_writeMemory 81 = .ok (.iconst 0, 1) := by decide +kernel
theorem dX6_writeMemory_82 : decode cX6_writeMemory 82 = .ok (.istore 4, 2) := by decide +kernel
theorem dX6_writeMemory_84 : decode cX6_writeMemory 84 = .ok (.iinc 5 1, 3) := by decide +kernel
theorem dX6_writeMemory_87 : decode cX6_writeMemory 87 = .ok (.goto (-63), 3) := by decide +kernel
theorem dX6_writeMemory_90 : decode cX6_writeMemory 90 = .ok (.aload_n 0, 1) := by decide +kernel
theorem dX6_writeMemory_91 : decode cX6_writeMemory 91 = .ok (.iload_n 3, 1) := by decide +kernel
theorem dX6_writeMemory_92 : decode cX6_writeMemory 92 = .ok (.invokestatic 65, 3) := by decide +kernel
theorem dX6_writeMemory_95 : decode cX6_writeMemory 95 = .ok (.return_, 1) := by decide +kernel
theorem dX6_writeZeros_0 : decode cX6_writeZeros 0 = .ok (.iload_n 1, 1) := by decide +kernel
theorem dX6_writeZeros_1 : decode cX6_writeZeros 1 = .ok (.istore_n 2, 1) := by decide +kernel
theorem dX6_writeZeros_2 : decode cX6_writeZeros 2 = .ok (.iload_n 2, 1) := by decide +kernel
theorem dX6_writeZeros_3 : decode cX6_writeZeros 3 = .ok (.ifCond .le 30, 3) := by decide +kernel
theorem dX6_writeZeros_6 : decode cX6_writeZeros 6 = .ok (.aload_n 0, 1) := by decide +kernel
theorem dX6_writeZeros_7 : decode cX6_writeZeros 7 = .ok (.iconst 0, 1) := by decide +kernel
theorem dX6_writeZeros_8 : decode cX6_writeZeros 8 = .ok (.invokevirtual 51, 3) := by decide +kernel
theorem dX6_writeZeros_11 : decode cX6_writeZeros 11 = .ok (.aload_n 0, 1) := by decide +kernel
theorem dX6_writeZeros_12 : decode cX6_writeZeros 12 = .ok (.iload_n 2, 1) := by decide +kernel
theorem dX6_writeZeros_13 : decode cX6_writeZeros 13 = .ok (.sipush 256, 3) := by decide +kernel
theorem dX6_writeZeros_16 : decode cX6_writeZeros 16 = .ok (.invokestatic 80, 3) := by decide +kernel
theorem dX6_writeZeros_19 : decode cX6_writeZeros 19 = .ok (.iconst 1, 1) := by decide +kernel
theorem dX6_writeZeros_20 : decode cX6_writeZeros 20 = .ok (.isub, 1) := by decide +kernel
theorem dX6_writeZeros_21 : decode cX6_writeZeros 21 = .ok (.invokevirtual 51, 3) := by decide +kernel
theorem dX6_writeZeros_24 : decode cX6_writeZeros 24 = .ok (.iinc 2 (-256), 6) := by decide +kernel
theorem dX6_writeZeros_30 : decode cX6_writeZeros 30 = .ok (.goto (-28), 3) := by decide +kernel
theorem dX6_writeZeros_33 : decode cX6_writeZeros 33 = .ok (.return_, 1) := by decide +kernel
theorem dX6_writeStack_0 : decode cX6_writeStack 0 = .ok (.aload_n 0, 1) := by decide +kernel
theorem dX6_writeStack_1 : decode cX6_writeStack 1 = .ok (.ldc 86, 2) := by decide +kernel
theorem dX6_writeStack_3 : decode cX6_writeStack 3 = .ok (.invokestatic 55, 3) := by decide +kernel
theorem dX6_writeStack_6 : decode cX6_writeStack 6 = .ok (.istore_n 2, 1) := by decide +kernel
theorem dX6_writeStack_7 : decode cX6_writeStack 7 = .ok (.iconst 0, 1) := by decide +kernel
theorem dX6_writeStack_8 : decode cX6_writeStack 8 = .ok (.istore_n 3, 1) := by decide +kernel
theorem dX6_writeStack_9 : decode cX6_writeStack 9 = .ok (.iload_n 3, 1) := by decide +kernel
theorem dX6_writeStack_10 : decode cX6_writeStack 10 = .ok (.aload_n 1, 1) := by decide +kernel
theorem dX6_writeStack_11 : decode cX6_writeStack 11 = .ok (.getfield 87, 3) := by decide +kernel
theorem dX6_writeStack_14 : decode cX6_writeStack 14 = .ok (.if_icmp .ge 19, 3) := by decide +kernel
theorem dX6_writeStack_17 : decode cX6_writeStack 17 = .ok (.aload_n 0, 1) := by decide +kernel
theorem dX6_writeStack_18 : decode cX6_writeStack 18 = .ok (.aload_n 1, 1) := by decide +kernel
theorem dX6_writeStack_19 : decode cX6_writeStack 19 = .ok (.getfield 90, 3) := by decide +kernel
theorem dX6_writeStack_22 : decode cX6_writeStack 22 = .ok (.iload_n 3, 1) := by decide +kernel
theorem dX6_writeStack_23 : decode cX6_writeStack 23 = .ok (.iaload, 1) := by decide +kernel
theorem dX6_writeStack_24 : decode cX6_writeStack 24 = .ok (.invokevirtual 10, 3) := by decide +kernel
theorem dX6_writeStack_27 : decode cX6_writeStack 27 = .ok (.iinc 3 1, 3) := by decide +kernel
theorem dX6_writeStack_30 : decode cX6_writeStack 30 = .ok (.goto (-21), 3) := by decide +kernel
theorem dX6_writeStack_33 : decode cX6_writeStack 33 = .ok (.aload_n 0, 1) := by decide +kernel
theorem dX6_writeStack_34 : decode cX6_writeStack 34 = .ok (.iload_n 2, 1) := by decide +kernel
theorem dX6_writeStack_35 : decode cX6_writeStack 35 = .ok (.invokestatic 65, 3) := by decide +kernel
theorem dX6_writeStack_38 : decode cX6_writeStack 38 = .ok (.return_, 1) := by decide +kernel
theorem dX6_writeBlocks_0 : decode cX6_writeBlocks 0 = .ok (.aload_n 0, 1) := by decide +kernel
theorem dX6_writeBlocks_1 : decode cX6_writeBlocks 1 = .ok (.ldc 93, 2) := by decide +kernel
theorem dX6_writeBlocks_3 : decode cX6_writeBlocks 3 = .ok (.invokestatic 55, 3) := by decide +kernel
theorem dX6_writeBlocks_6 : decode cX6_writeBlocks 6 = .ok (.istore_n 2, 1) := by decide +kernel
theorem dX6_writeBlocks_7 : decode cX6_writeBlocks 7 = .ok (.aload_n 0, 1) := by decide +kernel
theorem dX6_writeBlocks_8 : decode cX6_writeBlocks 8 = .ok (.aload_n 1, 1) := by decide +kernel
theorem dX6_writeBlocks_9 : decode cX6_writeBlocks 9 = .ok (.getfield 31, 3) := by decide +kernel
theorem dX6_writeBlocks_12 : decode cX6_writeBlocks 12 = .ok (.invokevirtual 10, 3) := by decide +kernel
theorem dX6_writeBlocks_15 : decode cX6_writeBlocks 15 = .ok (.iconst 0, 1) := by decide +kernel
theorem dX6_writeBlocks_16 : decode cX6_writeBlocks 16 = .ok (.istore_n 3, 1) := by decide +kernel
theorem dX6_writeBlocks_17 : decode cX6_writeBlocks 17 = .ok (.iload_n 3, 1) := by decide +kernel
theorem dX6_writeBlocks_18 : decode cX6_writeBlocks 18 = .ok (.aload_n 1, 1) := by decide +kernel
theorem dX6_writeBlocks_19 : decode cX6_writeBlocks 19 = .ok (.getfield 31, 3) := by decide +kernel
theorem dX6_writeBlocks_22 : decode cX6_writeBlocks 22 = .ok (.if_icmp .ge 29, 3) := by decide +kernel
theorem dX6_writeBlocks_25 : decode cX6_writeBlocks 25 = .ok (.aload_n 0, 1) := by decide +kernel
theorem dX6_writeBlocks_26 : decode cX6_writeBlocks 26 = .ok (.aload_n 1, 1) := by decide +kernel
theorem dX6_writeBlocks_27 : decode cX6_writeBlocks 27 = .ok (.getfield 94, 3) := by decide +kernel
theorem dX6_writeBlocks_30 : decode cX6_writeBlocks 30 = .ok (.iload_n 3, 1) := by decide +kernel
theorem dX6_writeBlocks_31 : decode cX6_writeBlocks 31 = .ok (.iaload, 1) := by decide +kernel
theorem dX6_writeBlocks_32 : decode cX6_writeBlocks 32 = .ok (.invokevirtual 10, 3) := by decide +kernel
theorem dX6_writeBlocks_35 : decode cX6_writeBlocks 35 = .ok (.aload_n 0, 1) := by decide +kernel
theorem dX6_writeBlocks_36 : decode cX6_writeBlocks 36 = .ok (.aload_n 1, 1) := by decide +kernel
theorem dX6_writeBlocks_37 : decode cX6_writeBlocks 37 = .ok (.getfield 97, 3) := by decide +kernel
theorem dX6_writeBlocks_40 : decode cX6_writeBlocks 40 = .ok (.iload_n 3, 1) := by decide +kernel
theorem dX6_writeBlocks_41 : decode cX6_writeBlocks 41 = .ok (.iaload, 1) := by decide +kernel
theorem dX6_writeBlocks_42 : decode cX6_writeBlocks 42 = .ok (.invokevirtual 10, 3) := by decide +kernel
theorem dX6_writeBlocks_45 : decode cX6_writeBlocks 45 = .ok (.iinc 3 1, 3) := by decide +kernel
theorem dX6_writeBlocks_48 : decode cX6_writeBlocks 48 = .ok (.goto (-31), 3) := by decide +kernel
theorem dX6_writeBlocks_51 : decode cX6_writeBlocks 51 = .ok (.aload_n 0, 1) := by decide +kernel
theorem dX6_writeBlocks_52 : decode cX6_writeBlocks 52 = .ok (.iload_n 2, 1) := by decide +kernel
theorem dX6_writeBlocks_53 : decode cX6_writeBlocks 53 = .ok (.invokestatic 65, 3) := by decide +kernel
theorem dX6_writeBlocks_56 : decode cX6_writeBlocks 56 = .ok (.return_, 1) := by decide +kernel
theorem dX6_writeOthers_0 : decode cX6_writeOthers 0 = .ok (.iconst 0, 1) := by decide +kernel
theorem dX6_writeOthers_1 : decode cX6_writeOthers 1 = .ok (.istore_n 2, 1) := by decide +kernel
theorem dX6_writeOthers_2 : decode cX6_writeOthers 2 = .ok (.iload_n 2, 1) := by decide +kernel
theorem dX6_writeOthers_3 : decode cX6_writeOthers 3 = .ok (.aload_n 1, 1) := by decide +kernel
theorem dX6_writeOthers_4 : decode cX6_writeOthers 4 = .ok (.getfield 100, 3) := by decide +kernel
theorem dX6_writeOthers_7 : decode cX6_writeOthers 7 = .ok (.if_icmp .ge 61, 3) := by decide +kernel
theorem dX6_writeOthers_10 : decode cX6_writeOthers 10 = .ok (.aload_n 0, 1) := by decide +kernel
theorem dX6_writeOthers_11 : decode cX6_writeOthers 11 = .ok (.aload_n 1, 1) := by decide +kernel
theorem dX6_writeOthers_12 : decode cX6_writeOthers 12 = .ok (.getfield 105, 3) := by decide +kernel
theorem dX6_writeOthers_15 : decode cX6_writeOthers 15 = .ok (.iload_n 2, 1) := by decide +kernel
theorem dX6_writeOthers_16 : decode cX6_writeOthers 16 = .ok (.iaload, 1) := by decide +kernel
theorem dX6_writeOthers_17 : decode cX6_writeOthers 17 = .ok (.invokestatic 55, 3) := by decide +kernel
theorem dX6_writeOthers_20 : decode cX6_writeOthers 20 = .ok (.istore_n 3, 1) := by decide +kernel
theorem dX6_writeOthers_21 : decode cX6_writeOthers 21 = .ok (.iconst 0, 1) := by decide +kernel
theorem dX6_writeOthers_22 : decode cX6_writeOthers 22 = .ok (.istore 4, 2) := by decide +kernel
theorem dX6_writeOthers_24 : decode cX6_writeOthers 24 = .ok (.iload 4, 2) := by decide +kernel
theorem dX6_writeOthers_26 : decode cX6_writeOthers 26 = .ok (.aload_n 1, 1) := by decide +kernel
theorem dX6_writeOthers_27 : decode cX6_writeOthers 27 = .ok (.getfield 108, 3) := by decide +kernel
theorem dX6_writeOthers_30 : decode cX6_writeOthers 30 = .ok (.iload_n 2, 1) := by decide +kernel
theorem dX6_writeOthers_31 : decode cX6_writeOthers 31 = .ok (.iaload, 1) := by decide +kernel
theorem dX6_writeOthers_32 : decode cX6_writeOthers 32 = .ok (.if_icmp .ge 25, 3) := by decide +kernel
theorem dX6_writeOthers_35 : decode cX6_writeOthers 35 = .ok (.aload_n 0, 1) := by decide +kernel
theorem dX6_writeOthers_36 : decode cX6_writeOthers 36 = .ok (.aload_n 1, 1) := by decide +kernel
theorem dX6_writeOthers_37 : decode cX6_writeOthers 37 = .ok (.getfield 109, 3) := by decide +kernel
theorem dX6_writeOthers_40 : decode cX6_writeOthers 40 = .ok (.iload_n 2, 1) := by decide +kernel
theorem dX6_writeOthers_41 : decode cX6_writeOthers 41 = .ok (.bipush 60, 2) := by decide +kernel
theorem dX6_writeOthers_43 : decode cX6_writeOthers 43 = .ok (.imul, 1) := by decide +kernel
theorem dX6_writeOthers_44 : decode cX6_writeOthers 44 = .ok (.iload 4, 2) := by decide +kernel
theorem dX6_writeOthers_46 : decode cX6_writeOthers 46 = .ok (.iadd, 1) := by decide +kernel
theorem dX6_writeOthers_47 : decode cX6_writeOthers 47 = .ok (.iaload, 1) := by decide +kernel
theorem dX6_writeOthers_48 : decode cX6_writeOthers 48 = .ok (.invokevirtual 51, 3) := by decide +kernel
theorem dX6_writeOthers_51 : decode cX6_writeOthers 51 = .ok (.iinc 4 1, 3) := by decide +kernel
theorem dX6_writeOthers_54 : decode cX6_writeOthers 54 = .ok (.goto (-30), 3) := by decide +kernel
theorem dX6_writeOthers_57 : decode cX6_writeOthers 57 = .ok (.aload_n 0, 1) := by decide +kernel
theorem dX6_writeOthers_58 : decode cX6_writeOthers 58 = .ok (.iload_n 3, 1) := by decide +kernel
theorem dX6_writeOthers_59 : decode cX6_writeOthers 59 = .ok (.invokestatic 65, 3) := by decide +kernel
theorem dX6_writeOthers_62 : decode cX6_writeOthers 62 = .ok (.iinc 2 1, 3) := by decide +kernel
theorem dX6_writeOthers_65 : decode cX6_writeOthers 65 = .ok (.goto (-63), 3) := by decide +kernel
theorem dX6_writeOthers_68 : decode cX6_writeOthers 68 = .ok (.return_, 1) := by decide +kernel
theorem dX7_init_0 : decode cX7_init 0 = .ok (.aload_n 0, 1) := by decide +kernel
theorem dX7_init_1 : decode cX7_init 1 = .ok (.invokespecial 1, 3) := by decide +kernel
theorem dX7_init_4 : decode cX7_init 4 = .ok (.aload_n 0, 1) := by decide +kernel
theorem dX7_init_5 : decode cX7_init 5 = .ok (.new 7, 3) := by decide +kernel
theorem dX7_init_8 : decode cX7_init 8 = .ok (.dup, 1) := by decide +kernel
theorem dX7_init_9 : decode cX7_init 9 = .ok (.invokespecial 9, 3) := by decide +kernel
theorem dX7_init_12 : decode cX7_init 12 = .ok (.putfield 10, 3) := by decide +kernel
theorem dX7_init_15 : decode cX7_init 15 = .ok (.aload_n 0, 1) := by decide +kernel
theorem dX7_init_16 : decode cX7_init 16 = .ok (.new 7, 3) := by decide +kernel
theorem dX7_init_19 : decode cX7_init 19 = .ok (.dup, 1) := by decide +kernel
theorem dX7_init_20 : decode cX7_init 20 = .ok (.invokespecial 9, 3) := by decide +kernel
theorem dX7_init_23 : decode cX7_init 23 = .ok (.putfield 16, 3) := by decide +kernel
theorem dX7_init_26 : decode cX7_init 26 = .ok (.aload_n 0, 1) := by decide +kernel
theorem dX7_init_27 : decode cX7_init 27 = .ok (.new 19, 3) := by decide +kernel
theorem dX7_init_30 : decode cX7_init 30 = .ok (.dup, 1) := by decide +kernel
theorem dX7_init_31 : decode cX7_init 31 = .ok (.invokespecial 21, 3) := by decide +kernel
theorem dX7_init_34 : decode cX7_init 34 = .ok (.putfield 22, 3) := by decide +kernel
theorem dX7_init_37 : decode cX7_init 37 = .ok (.aload_n 0, 1) := by decide +kernel
theorem dX7_init_38 : decode cX7_init 38 = .ok (.new 26, 3) := by decide +kernel
theorem dX7_init_41 : decode cX7_init 41 = .ok (.dup, 1) := by decide +kernel
theorem dX7_init_42 : decode cX7_init 42 = .ok (.invokespecial 28, 3) := by decide +kernel
theorem dX7_init_45 : decode cX7_init 45 = .ok (.putfield 29, 3) := by decide +kernel
theorem dX7_init_48 : decode cX7_init 48 = .ok (.aload_n 0, 1) := by decide +kernel
theorem dX7_init_49 : decode cX7_init 49 = .ok (.new 26, 3) := by decide +kernel
theorem dX7_init_52 : decode cX7_init 52 = .ok (.dup, 1) := by decide +kernel
theorem dX7_init_53 : decode cX7_init 53 = .ok (.invokespecial 28, 3) := by decide +kernel
theorem dX7_init_56 : decode cX7_init 56 = .ok (.putfield 33, 3) := by decide +kernel
theorem dX7_init_59 : decode cX7_init 59 = .ok (.aload_n 0, 1) := by decide +kernel
theorem dX7_init_60 : decode cX7_init 60 = .ok (.new 36, 3) := by decide +kernel
theorem dX7_init_63 : decode cX7_init 63 = .ok (.dup, 1) := by decide +kernel
theorem dX7_init_64 : decode cX7_init 64 = .ok (.invokespecial 38, 3) := by decide +kernel
theorem dX7_init_67 : decode cX7_init 67 = .ok (.putfield 39, 3) := by decide +kernel
theorem dX7_init_70 : decode cX7_init 70 = .ok (.aload_n 0, 1) := by decide +kernel
theorem dX7_init_71 : decode cX7_init 71 = .ok (.iconst 0, 1) := by decide +kernel
theorem dX7_init_72 : decode cX7_init 72 = .ok (.putfield 43, 3) := by decide +kernel
theorem dX7_init_75 : decode cX7_init 75 = .ok (.aload_n 0, 1) := by decide +kernel
theorem dX7_init_76 : decode cX7_init 76 = .ok (.iconst 0, 1) := by decide +kernel
theorem dX7_init_77 : decode cX7_init 77 = .ok (.putfield 47, 3) := by decide +kernel
theorem dX7_init_80 : decode cX7_init 80 = .ok (.aload_n 0, 1) := by decide +kernel
theorem dX7_init_81 : decode cX7_init 81 = .ok (.iconst 0, 1) := by decide +kernel
theorem dX7_init_82 : decode cX7_init 82 = .ok (.putfield 50, 3) := by decide +kernel
theorem dX7_init_85 : decode cX7_init 85 = .ok (.aload_n 0, 1) := by decide +kernel
theorem dX7_init_86 : decode cX7_init 86 = .ok (.iconst 0, 1) := by decide +kernel
theorem dX7_init_87 : decode cX7_init 87 = .ok (.putfield 53, 3) := by decide +kernel
theorem dX7_init_90 : decode cX7_init 90 = .ok (.aload_n 0, 1) := by decide +kernel
theorem dX7_init_91 : decode cX7_init 91 = .ok (.new 56, 3) := by decide +kernel
theorem dX7_init_94 : decode cX7_init 94 = .ok (.dup, 1) := by decide +kernel
theorem dX7_init_95 : decode cX7_init 95 = .ok (.iload_n 1, 1) := by decide +kernel
theorem dX7_init_96 : decode cX7_init 96 = .ok (.iload_n 2, 1) := by decide +kernel
theorem dX7_init_97 : decode cX7_init 97 = .ok (.iload_n 3, 1) := by decide +kernel
theorem dX7_init_98 : decode cX7_init 98 = .ok (.invokespecial 58, 3) := by decide +kernel
theorem dX7_init_101 : decode cX7_init 101 = .ok (.putfield 61, 3) := by decide +kernel
theorem dX7_init_104 : decode cX7_init 104 = .ok (.aload_n 0, 1) := by decide +kernel
theorem dX7_init_105 : decode cX7_init 105 = .ok (.new 65, 3) := by decide +kernel
theorem dX7_init_108 : decode cX7_init 108 = .ok (.dup, 1) := by decide +kernel
theorem dX7_init_109 : decode cX7_init 109 = .ok (.aload_n 0, 1) := by decide +kernel
theorem dX7_init_110 : decode cX7_init 110 = .ok (.getfield 61, 3) := by decide +kernel
theorem dX7_init_113 : decode cX7_init 113 = .ok (.invokespecial 67, 3) := by decide +kernel
theorem dX7_init_116 : decode cX7_init 116 = .ok (.putfield 70, 3) := by decide +kernel
theorem dX7_init_119 : decode cX7_init 119 = .ok (.aload_n 0, 1) := by decide +kernel
theorem dX7_init_120 : decode cX7_init 120 = .ok (.getfield 10, 3) := by decide +kernel
theorem dX7_init_123 : decode cX7_init 123 = .ok (.aload_n 0, 1) := by decide +kernel
theorem dX7_init_124 : decode cX7_init 124 = .ok (.getfield 61, 3) := by decide +kernel
theorem dX7_init_127 : decode cX7_init 127 = .ok (.invokevirtual 74, 3) := by decide +kernel
theorem dX7_init_130 : decode cX7_init 130 = .ok (.aload_n 0, 1) := by decide +kernel
theorem dX7_init_131 : decode cX7_init 131 = .ok (.getfield 16, 3) := by decide +kernel
theorem dX7_init_134 : decode cX7_init 134 = .ok (.aload_n 0, 1) := by decide +kernel
theorem dX7_init_135 : decode cX7_init 135 = .ok (.getfield 61, 3) := by decide +kernel
theorem dX7_init_138 : decode cX7_init 138 = .ok (.invokevirtual 74, 3) := by decide +kernel
theorem dX7_init_141 : decode cX7_init 141 = .ok (.return_, 1) := by decide +kernel
theorem dX7_peek_0 : decode cX7_peek 0 = .ok (.iload_n 1, 1) := by decide +kernel
theorem dX7_peek_1 : decode cX7_peek 1 = .ok (.ifCond .lt 14, 3) := by decide +kernel
theorem dX7_peek_4 : decode cX7_peek 4 = .ok (.iload_n 1, 1) := by decide +kernel
theorem dX7_peek_5 : decode cX7_peek 5 = .ok (.aload_n 0, 1) := by decide +kernel
theorem dX7_peek_6 : decode cX7_peek 6 = .ok (.getfield 10, 3) := by decide +kernel
theorem dX7_peek_9 : decode cX7_peek 9 = .ok (.getfield 77, 3) := by decide +kernel
theorem dX7_peek_12 : decode cX7_peek 12 = .ok (.if_icmp .lt 7, 3) := by decide +kernel
theorem dX7_peek_15 : decode cX7_peek 15 = .ok (.iconst (-1), 1) := by decide +kernel
theorem dX7_peek_16 : decode cX7_peek 16 = .ok (.goto 12, 3) := by decide +kernel
theorem dX7_peek_19 : decode cX7_peek 19 = .ok (.aload_n 0, 1) := by decide +kernel
theorem dX7_peek_20 : decode cX7_peek 20 = .ok (.getfield 10, 3) := by decide +kernel
theorem dX7_peek_23 : decode cX7_peek 23 = .ok (.getfield 80, 3) := by decide +kernel
theorem dX7_peek_26 : decode cX7_peek 26 = .ok (.iload_n 1, 1) := by decide +kernel
theorem dX7_peek_27 : decode cX7_peek 27 = .ok (.iaload, 1) := by decide +kernel
theorem dX7_peek_28 : decode cX7_peek 28 = .ok (.ireturn, 1) := by decide +kernel
theorem dX7_poke_0 : decode cX7_poke 0 = .ok (.iload_n 1, 1) := by decide +kernel
theorem dX7_poke_1 : decode cX7_poke 1 = .ok (.aload_n 0, 1) := by decide +kernel
theorem dX7_poke_2 : decode cX7_poke 2 = .ok (.getfield 61, 3) := by decide +kernel
theorem dX7_poke_5 : decode cX7_poke 5 = .ok (.getfield 84, 3) := by decide +kernel
theorem dX7_poke_8 : decode cX7_poke 8 = .ok (.if_icmp .lt 14, 3) := by decide +kernel
theorem dX7_poke_11 : decode cX7_poke 11 = .ok (.iload_n 1, 1) := by decide +kernel
theorem dX7_poke_12 : decode cX7_poke 12 = .ok (.aload_n 0, 1) := by decide +kernel
theorem dX7_poke_13 : decode cX7_poke 13 = .ok (.getfield 10, 3) := by decide +kernel
theorem dX7_poke_16 : decode cX7_poke 16 = .ok (.getfield 77, 3) := by decide +kernel
theorem dX7_poke_19 : decode cX7_poke 19 = .ok (.if_icmp .lt 5, 3) := by decide +kernel
theorem dX7_poke_22 : decode cX7_poke 22 = .ok (.iconst (-1), 1) := by decide +kernel
theorem dX7_poke_23 : decode cX7_poke 23 = .ok (.ireturn, 1) := by decide +kernel
theorem dX7_poke_24 : decode cX7_poke 24 = .ok (.iload_n 2, 1) := by decide +kernel
theorem dX7_poke_25 : decode cX7_poke 25 = .ok (.invokestatic 87, 3) := by decide +kernel
theorem dX7_poke_28 : decode cX7_poke 28 = .ok (.ifCond .ne 6, 3) := by decide +kernel
theorem dX7_poke_31 : decode cX7_poke 31 = .ok (.bipush (-2), 2) := by decide +kernel
theorem dX7_poke_33 : decode cX7_poke 33 = .ok (.ireturn, 1) := by decide +kernel
theorem dX7_poke_34 : decode cX7_poke 34 = .ok (.aload_n 0, 1) := by decide +kernel
theorem dX7_poke_35 : decode cX7_poke 35 = .ok (.getfield 10, 3) := by decide +kernel
theorem dX7_poke_38 : decode cX7_poke 38 = .ok (.getfield 80, 3) := by decide +kernel
theorem dX7_poke_41 : decode cX7_poke 41 = .ok (.iload_n 1, 1) := by decide +kernel
theorem dX7_poke_42 : decode cX7_poke 42 = .ok (.iaload, 1) := by decide +kernel
theorem dX7_poke_43 : decode cX7_poke 43 = .ok (.istore_n 3, 1) := by decide +kernel
theorem dX7_poke_44 : decode cX7_poke 44 = .ok (.aload_n 0, 1) := by decide +kernel
theorem dX7_poke_45 : decode cX7_poke 45 = .ok (.getfield 10, 3) := by decide +kernel
theorem dX7_poke_48 : decode cX7_poke 48 = .ok (.getfield 80, 3) := by decide +kernel
theorem dX7_poke_51 : decode cX7_poke 51 = .ok (.iload_n 1, 1) := by decide +kernel
theorem dX7_poke_52 : decode cX7_poke 52 = .ok (.iload_n 2, 1) := by decide +kernel
theorem dX7_poke_53 : decode cX7_poke 53 = .ok (.iastore, 1) := by decide +kernel
theorem dX7_poke_54 : decode cX7_poke 54 = .ok (.iload_n 3, 1) := by decide +kernel
theorem dX7_poke_55 : decode cX7_poke 55 = .ok (.ireturn, 1) := by decide +kernel
theorem dX7_resize_0 : decode cX7_resize 0 = .ok (.aload_n 0, 1) := by decide +kernel
theorem dX7_resize_1 : decode cX7_resize 1 = .ok (.getfield 61, 3) := by decide +kernel
theorem dX7_resize_4 : decode cX7_resize 4 = .ok (.iload_n 1, 1) := by decide +kernel
theorem dX7_resize_5 : decode cX7_resize 5 = .ok (.invokevirtual 91, 3) := by decide +kernel
theorem dX7_resize_8 : decode cX7_resize 8 = .ok (.ifCond .ne 6, 3) := by decide +kernel
theorem dX7_resize_11 : decode cX7_resize 11 = .ok (.bipush (-2), 2) := by decide +kernel
theorem dX7_resize_13 : decode cX7_resize 13 = .ok (.ireturn, 1) := by decide +kernel
theorem dX7_resize_14 : decode cX7_resize 14 = .ok (.aload_n 0, 1) := by decide +kernel
theorem dX7_resize_15 : decode cX7_resize 15 = .ok (.getfield 10, 3) := by decide +kernel
theorem dX7_resize_18 : decode cX7_resize 18 = .ok (.invokevirtual 94, 3) := by decide +kernel
theorem dX7_resize_21 : decode cX7_resize 21 = .ok (.iload_n 1, 1) := by decide +kernel
theorem dX7_resize_22 : decode cX7_resize 22 = .ok (.if_icmp .le 6, 3) := by decide +kernel
theorem dX7_resize_25 : decode cX7_resize 25 = .ok (.bipush (-3), 2) := by decide +kernel
theorem dX7_resize_27 : decode cX7_resize 27 = .ok (.ireturn, 1) := by decide +kernel
theorem dX7_resize_28 : decode cX7_resize 28 = .ok (.aload_n 0, 1) := by decide +kernel
theorem dX7_resize_29 : decode cX7_resize 29 = .ok (.getfield 10, 3) := by decide +kernel
theorem dX7_resize_32 : decode cX7_resize 32 = .ok (.getfield 77, 3) := by decide +kernel
theorem dX7_resize_35 : decode cX7_resize 35 = .ok (.istore_n 2, 1) := by decide +kernel
theorem dX7_resize_36 : decode cX7_resize 36 = .ok (.aload_n 0, 1) := by decide +kernel
theorem dX7_resize_37 : decode cX7_resize 37 = .ok (.getfield 10, 3) := by decide +kernel
theorem dX7_resize_40 : decode cX7_resize 40 = .ok (.iload_n 1, 1) := by decide +kernel
theorem dX7_resize_41 : decode cX7_resize 41 = .ok (.invokevirtual 98, 3) := by decide +kernel
theorem dX7_resize_44 : decode cX7_resize 44 = .ok (.iload_n 2, 1) := by decide +kernel
theorem dX7_resize_45 : decode cX7_resize 45 = .ok (.ireturn, 1) := by decide +kernel
theorem dX7_push_0 : decode cX7_push 0 = .ok (.aload_n 0, 1) := by decide +kernel
theorem dX7_push_1 : decode cX7_push 1 = .ok (.getfield 10, 3) := by decide +kernel
theorem dX7_push_4 : decode cX7_push 4 = .ok (.iload_n 1, 1) := by decide +kernel
theorem dX7_push_5 : decode cX7_push 5 = .ok (.invokevirtual 102, 3) := by decide +kernel
theorem dX7_push_8 : decode cX7_push 8 = .ok (.ifCond .eq 13, 3) := by decide +kernel
theorem dX7_push_11 : decode cX7_push 11 = .ok (.aload_n 0, 1) := by decide +kernel
theorem dX7_push_12 : decode cX7_push 12 = .ok (.getfield 10, 3) := by decide +kernel
theorem dX7_push_15 : decode cX7_push 15 = .ok (.getfield 105, 3) := by decide +kernel
theorem dX7_push_18 : decode cX7_push 18 = .ok (.goto 5, 3) := by decide +kernel
theorem dX7_push_21 : decode cX7_push 21 = .ok (.bipush (-4), 2) := by decide +kernel
theorem dX7_push_23 : decode cX7_push 23 = .ok (.ireturn, 1) := by decide +kernel
theorem dX7_pop_0 : decode cX7_pop 0 = .ok (.aload_n 0, 1) := by decide +kernel
theorem dX7_pop_1 : decode cX7_pop 1 = .ok (.getfield 10, 3) := by decide +kernel
theorem dX7_pop_4 : decode cX7_pop 4 = .ok (.getfield 105, 3) := by decide +kernel
theorem dX7_pop_7 : decode cX7_pop 7 = .ok (.ifCond .gt 13, 3) := by decide +kernel
theorem dX7_pop_10 : decode cX7_pop 10 = .ok (.new 108, 3) := by decide +kernel
theorem dX7_pop_13 : decode cX7_pop 13 = .ok (.dup, 1) := by decide +kernel
theorem dX7_pop_14 : decode cX7_pop 14 = .ok (.ldc 110, 2) := by decide +kernel
theorem dX7_pop_16 : decode cX7_pop 16 = .ok (.invokespecial 112, 3) := by decide +kernel
theorem dX7_pop_19 : decode cX7_pop 19 = .ok (.athrow, 1) := by decide +kernel
theorem dX7_pop_20 : decode cX7_pop 20 = .ok (.aload_n 0, 1) := by decide +kernel
theorem dX7_pop_21 : decode cX7_pop 21 = .ok (.getfield 10, 3) := by decide +kernel
theorem dX7_pop_24 : decode cX7_pop 24 = .ok (.invokevirtual 115, 3) := by decide +kernel
theorem dX7_pop_27 : decode cX7_pop 27 = .ok (.ireturn, 1) := by decide +kernel
theorem dX7_block_0 : decode cX7_block 0 = .ok (.iload_n 2, 1) := by decide +kernel
theorem dX7_block_1 : decode cX7_block 1 = .ok (.invokestatic 118, 3) := by decide +kernel
theorem dX7_block_4 : decode cX7_block 4 = .ok (.ifCond .ne 6, 3) := by decide +kernel
theorem dX7_block_7 : decode cX7_block 7 = .ok (.bipush (-2), 2) := by decide +kernel
theorem dX7_block_9 : decode cX7_block 9 = .ok (.ireturn, 1) := by decide +kernel
theorem dX7_block_10 : decode cX7_block 10 = .ok (.aload_n 0, 1) := by decide +kernel
theorem dX7_block_11 : decode cX7_block 11 = .ok (.getfield 10, 3) := by decide +kernel
theorem dX7_block_14 : decode cX7_block 14 = .ok (.iload_n 1, 1) := by decide +kernel
theorem dX7_block_15 : decode cX7_block 15 = .ok (.iload_n 2, 1) := by decide +kernel
theorem dX7_block_16 : decode cX7_block 16 = .ok (.aload_n 0, 1) := by decide +kernel
theorem dX7_block_17 : decode cX7_block 17 = .ok (.getfield 61, 3) := by decide +kernel
theorem dX7_block_20 : decode cX7_block 20 = .ok (.getfield 121, 3) := by decide +kernel
theorem dX7_block_23 : decode cX7_block 23 = .ok (.invokevirtual 124, 3) := by decide +kernel
theorem dX7_block_26 : decode cX7_block 26 = .ok (.ifCond .ne 6, 3) := by decide +kernel
theorem dX7_block_29 : decode cX7_block 29 = .ok (.bipush (-3), 2) := by decide +kernel
theorem dX7_block_31 : decode cX7_block 31 = .ok (.ireturn, 1) := by decide +kernel
theorem dX7_block_32 : decode cX7_block 32 = .ok (.aload_n 0, 1) := by decide +kernel
theorem dX7_block_33 : decode cX7_block 33 = .ok (.getfield 10, 3) := by decide +kernel
theorem dX7_block_36 : decode cX7_block 36 = .ok (.iload_n 1, 1) := by decide +kernel
theorem dX7_block_37 : decode cX7_block 37 = .ok (.iload_n 2, 1) := by decide +kernel
theorem dX7_block_38 : decode cX7_block 38 = .ok (.invokevirtual 128, 3) := by decide +kernel
theorem dX7_block_41 : decode cX7_block 41 = .ok (.ifCond .eq 13, 3) := by decide +kernel
theorem dX7_block_44 : decode cX7_block 44 = .ok (.aload_n 0, 1) := by decide +kernel
theorem dX7_block_45 : decode cX7_block 45 = .ok (.getfield 10, 3) := by decide +kernel
theorem dX7_block_48 : decode cX7_block 48 = .ok (.getfield 132, 3) := by decide +kernel
theorem dX7_block_51 : decode cX7_block 51 = .ok (.goto 5, 3) := by decide +kernel
theorem dX7_block_54 : decode cX7_block 54 = .ok (.bipush (-4), 2) := by decide +kernel
theorem dX7_block_56 : decode cX7_block 56 = .ok (.ireturn, 1) := by decide +kernel
theorem dX7_free_0 : decode cX7_free 0 = .ok (.aload_n 0, 1) := by decide +kernel
theorem dX7_free_1 : decode cX7_free 1 = .ok (.getfield 10, 3) := by decide +kernel
theorem dX7_free_4 : decode cX7_free 4 = .ok (.iload_n 1, 1) := by decide +kernel
theorem dX7_free_5 : decode cX7_free 5 = .ok (.invokevirtual 135, 3) := by decide +kernel
theorem dX7_free_8 : decode cX7_free 8 = .ok (.istore_n 2, 1) := by decide +kernel
theorem dX7_free_9 : decode cX7_free 9 = .ok (.iload_n 2, 1) := by decide +kernel
theorem dX7_free_10 : decode cX7_free 10 = .ok (.ifCond .ge 7, 3) := by decide +kernel
theorem dX7_free_13 : decode cX7_free 13 = .ok (.iconst (-1), 1) := by decide +kernel
theorem dX7_free_14 : decode cX7_free 14 = .ok (.goto 11, 3) := by decide +kernel
theorem dX7_free_17 : decode cX7_free 17 = .ok (.aload_n 0, 1) := by decide +kernel
theorem dX7_free_18 : decode cX7_free 18 = .ok (.getfield 10, 3) := by decide +kernel
theorem dX7_free_21 : decode cX7_free 21 = .ok (.iload_n 2, 1) := by decide +kernel
theorem dX7_free_22 : decode cX7_free 22 = .ok (.invokevirtual 139, 3) := by decide +kernel
theorem dX7_free_25 : decode cX7_free 25 = .ok (.ireturn, 1) := by decide +kernel
theorem dX7_protect_0 : decode cX7_protect 0 = .ok (.iload_n 1, 1) := by decide +kernel
theorem dX7_protect_1 : decode cX7_protect 1 = .ok (.ifCond .lt 21, 3) := by decide +kernel
theorem dX7_protect_4 : decode cX7_protect 4 = .ok (.iload_n 1, 1) := by decide +kernel
theorem dX7_protect_5 : decode cX7_protect 5 = .ok (.sipush 512, 3) := by decide +kernel
theorem dX7_protect_8 : decode cX7_protect 8 = .ok (.if_icmp .ge 14, 3) := by decide +kernel
theorem dX7_protect_11 : decode cX7_protect 11 = .ok (.iload_n 2, 1) := by decide +kernel
theorem dX7_protect_12 : decode cX7_protect 12 = .ok (.ifCond .lt 10, 3) := by decide +kernel
theorem dX7_protect_15 : decode cX7_protect 15 = .ok (.iload_n 2, 1) := by decide +kernel
theorem dX7_protect_16 : decode cX7_protect 16 = .ok (.sipush 512, 3) := by decide +kernel
theorem dX7_protect_19 : decode cX7_protect 19 = .ok (.if_icmp .le 6, 3) := by decide +kernel
theorem dX7_protect_22 : decode cX7_protect 22 = .ok (.bipush (-2), 2) := by decide +kernel
theorem dX7_protect_24 : decode cX7_protect 24 = .ok (.ireturn, 1) := by decide +kernel
theorem dX7_protect_25 : decode cX7_protect 25 = .ok (.aload_n 0, 1) := by decide +kernel
theorem dX7_protect_26 : decode cX7_protect 26 = .ok (.iload_n 1, 1) := by decide +kernel
theorem dX7_protect_27 : decode cX7_protect 27 = .ok (.putfield 43, 3) := by decide +kernel
theorem dX7_protect_30 : decode cX7_protect 30 = .ok (.aload_n 0, 1) := by decide +kernel
theorem dX7_protect_31 : decode cX7_protect 31 = .ok (.iload_n 1, 1) := by decide +kernel
theorem dX7_protect_32 : decode cX7_protect 32 = .ok (.iload_n 2, 1) := by decide +kernel
theorem dX7_protect_33 : decode cX7_protect 33 = .ok (.iadd, 1) := by decide +kernel
theorem dX7_protect_34 : decode cX7_protect 34 = .ok (.putfield 47, 3) := by decide +kernel
theorem dX7_protect_37 : decode cX7_protect 37 = .ok (.iconst 1, 1) := by decide +kernel
theorem dX7_protect_38 : decode cX7_protect 38 = .ok (.ireturn, 1) := by decide +kernel
theorem dX7_save_0 : decode cX7_save 0 = .ok (.aload_n 0, 1) := by decide +kernel
theorem dX7_save_1 : decode cX7_save 1 = .ok (.getfield 33, 3) := by decide +kernel
theorem dX7_save_4 : decode cX7_save 4 = .ok (.invokevirtual 142, 3) := by decide +kernel
theorem dX7_save_7 : decode cX7_save 7 = .ok (.aload_n 0, 1) := by decide +kernel
theorem dX7_save_8 : decode cX7_save 8 = .ok (.getfield 33, 3) := by decide +kernel
theorem dX7_save_11 : decode cX7_save 11 = .ok (.aload_n 0, 1) := by decide +kernel
theorem dX7_save_12 : decode cX7_save 12 = .ok (.getfield 61, 3) := by decide +kernel
theorem dX7_save_15 : decode cX7_save 15 = .ok (.aload_n 0, 1) := by decide +kernel
theorem dX7_save_16 : decode cX7_save 16 = .ok (.getfield 10, 3) := by decide +kernel
theorem dX7_save_19 : decode cX7_save 19 = .ok (.aload_n 0, 1) := by decide +kernel
theorem dX7_save_20 : decode cX7_save 20 = .ok (.getfield 22, 3) := by decide +kernel
theorem dX7_save_23 : decode cX7_save 23 = .ok (.invokestatic 145, 3) := by decide +kernel
theorem dX7_save_26 : decode cX7_save 26 = .ok (.aload_n 0, 1) := by decide +kernel
theorem dX7_save_27 : decode cX7_save 27 = .ok (.getfield 33, 3) := by decide +kernel
theorem dX7_save_30 : decode cX7_save 30 = .ok (.getfield 151, 3) := by decide +kernel
theorem dX7_save_33 : decode cX7_save 33 = .ok (.ifCond .eq 6, 3) := by decide +kernel
theorem dX7_save_36 : decode cX7_save 36 = .ok (.bipush (-4), 2) := by decide +kernel
theorem dX7_save_38 : decode cX7_save 38 = .ok (.ireturn, 1) := by decide +kernel
theorem dX7_save_39 : decode cX7_save 39 = .ok (.aload_n 0, 1) := by decide +kernel
theorem dX7_save_40 : decode cX7_save 40 = .ok (.getfield 29, 3) := by decide +kernel
theorem dX7_save_43 : decode cX7_save 43 = .ok (.aload_n 0, 1) := by decide +kernel
theorem dX7_save_44 : decode cX7_save 44 = .ok (.getfield 33, 3) := by decide +kernel
theorem dX7_save_47 : decode cX7_save 47 = .ok (.invokevirtual 155, 3) := by decide +kernel
theorem dX7_save_50 : decode cX7_save 50 = .ok (.aload_n 0, 1) := by decide +kernel
theorem dX7_save_51 : decode cX7_save 51 = .ok (.getfield 29, 3) := by decide +kernel
theorem dX7_save_54 : decode cX7_save 54 = .ok (.getfield 159, 3) := by decide +kernel
theorem dX7_save_57 : decode cX7_save 57 = .ok (.ireturn, 1) := by decide +kernel
theorem dX7_load_0 : decode cX7_load 0 = .ok (.aload_n 0, 1) := by decide +kernel
theorem dX7_load_1 : decode cX7_load 1 = .ok (.getfield 70, 3) := by decide +kernel
theorem dX7_load_4 : decode cX7_load 4 = .ok (.aload_n 0, 1) := by decide +kernel
theorem dX7_load_5 : decode cX7_load 5 = .ok (.getfield 29, 3) := by decide +kernel
theorem dX7_load_8 : decode cX7_load 8 = .ok (.invokevirtual 160, 3) := by decide +kernel
theorem dX7_load_11 : decode cX7_load 11 = .ok (.ifCond .ne 33, 3) := by decide +kernel
theorem dX7_load_14 : decode cX7_load 14 = .ok (.aload_n 0, 1) := by decide +kernel
theorem dX7_load_15 : decode cX7_load 15 = .ok (.aload_n 0, 1) := by decide +kernel
theorem dX7_load_16 : decode cX7_load 16 = .ok (.getfield 70, 3) := by decide +kernel
theorem dX7_load_19 : decode cX7_load 19 = .ok (.getfield 164, 3) := by decide +kernel
theorem dX7_load_22 : decode cX7_load 22 = .ok (.putfield 50, 3) := by decide +kernel
theorem dX7_load_25 : decode cX7_load 25 = .ok (.aload_n 0, 1) := by decide +kernel
theorem dX7_load_26 : decode cX7_load 26 = .ok (.aload_n 0, 1) := by decide +kernel
theorem dX7_load_27 : decode cX7_load 27 = .ok (.getfield 70, 3) := by decide +kernel
theorem dX7_load_30 : decode cX7_load 30 = .ok (.getfield 167, 3) := by decide +kernel
theorem dX7_load_33 : decode cX7_load 33 = .ok (.putfield 53, 3) := by decide +kernel
theorem dX7_load_36 : decode cX7_load 36 = .ok (.bipush (-10), 2) := by decide +kernel
theorem dX7_load_38 : decode cX7_load 38 = .ok (.aload_n 0, 1) := by decide +kernel
theorem dX7_load_39 : decode cX7_load 39 = .ok (.getfield 50, 3) := by decide +kernel
theorem dX7_load_42 : decode cX7_load 42 = .ok (.isub, 1) := by decide +kernel
theorem dX7_load_43 : decode cX7_load 43 = .ok (.ireturn, 1) := by decide +kernel
theorem dX7_load_44 : decode cX7_load 44 = .ok (.aload_n 0, 1) := by decide +kernel
theorem dX7_load_45 : decode cX7_load 45 = .ok (.aload_n 0, 1) := by decide +kernel
theorem dX7_load_46 : decode cX7_load 46 = .ok (.getfield 70, 3) := by decide +kernel
theorem dX7_load_49 : decode cX7_load 49 = .ok (.getfield 170, 3) := by decide +kernel
theorem dX7_load_52 : decode cX7_load 52 = .ok (.invokevirtual 173, 3) := by decide +kernel
theorem dX7_load_55 : decode cX7_load 55 = .ok (.aload_n 0, 1) := by decide +kernel
theorem dX7_load_56 : decode cX7_load 56 = .ok (.getfield 22, 3) := by decide +kernel
theorem dX7_load_59 : decode cX7_load 59 = .ok (.aload_n 0, 1) := by decide +kernel
theorem dX7_load_60 : decode cX7_load 60 = .ok (.getfield 70, 3) := by decide +kernel
theorem dX7_load_63 : decode cX7_load 63 = .ok (.getfield 177, 3) := by decide +kernel
theorem dX7_load_66 : decode cX7_load 66 = .ok (.invokevirtual 178, 3) := by decide +kernel
theorem dX7_load_69 : decode cX7_load 69 = .ok (.iconst 1, 1) := by decide +kernel
theorem dX7_load_70 : decode cX7_load 70 = .ok (.ireturn, 1) := by decide +kernel
theorem dX7_fault_0 : decode cX7_fault 0 = .ok (.iload_n 1, 1) := by decide +kernel
theorem dX7_fault_1 : decode cX7_fault 1 = .ok (.ifCond .eq 11, 3) := by decide +kernel
theorem dX7_fault_4 : decode cX7_fault 4 = .ok (.iload_n 1, 1) := by decide +kernel
theorem dX7_fault_5 : decode cX7_fault 5 = .ok (.iconst 1, 1) := by decide +kernel
theorem dX7_fault_6 : decode cX7_fault 6 = .ok (.if_icmp .eq 6, 3) := by decide +kernel
theorem dX7_fault_9 : decode cX7_fault 9 = .ok (.bipush (-2), 2) := by decide +kernel
theorem dX7_fault_11 : decode cX7_fault 11 = .ok (.ireturn, 1) := by decide +kernel
theorem dX7_fault_12 : decode cX7_fault 12 = .ok (.aload_n 0, 1) := by decide +kernel
theorem dX7_fault_13 : decode cX7_fault 13 = .ok (.getfield 50, 3) := by decide +kernel
theorem dX7_fault_16 : decode cX7_fault 16 = .ok (.ifCond .ne 6, 3) := by decide +kernel
theorem dX7_fault_19 : decode cX7_fault 19 = .ok (.bipush (-3), 2) := by decide +kernel
theorem dX7_fault_21 : decode cX7_fault 21 = .ok (.ireturn, 1) := by decide +kernel
theorem dX7_fault_22 : decode cX7_fault 22 = .ok (.iload_n 1, 1) := by decide +kernel
theorem dX7_fault_23 : decode cX7_fault 23 = .ok (.ifCond .ne 10, 3) := by decide +kernel
theorem dX7_fault_26 : decode cX7_fault 26 = .ok (.aload_n 0, 1) := by decide +kernel
theorem dX7_fault_27 : decode cX7_fault 27 = .ok (.getfield 50, 3) := by decide +kernel
theorem dX7_fault_30 : decode cX7_fault 30 = .ok (.goto 7, 3) := by decide +kernel
theorem dX7_fault_33 : decode cX7_fault 33 = .ok (.aload_n 0, 1) := by decide +kernel
theorem dX7_fault_34 : decode cX7_fault 34 = .ok (.getfield 53, 3) := by decide +kernel
theorem dX7_fault_37 : decode cX7_fault 37 = .ok (.ireturn, 1) := by decide +kernel
theorem dX7_mark_0 : decode cX7_mark 0 = .ok (.aload_n 0, 1) := by decide +kernel
theorem dX7_mark_1 : decode cX7_mark 1 = .ok (.getfield 39, 3) := by decide +kernel
theorem dX7_mark_4 : decode cX7_mark 4 = .ok (.aload_n 0, 1) := by decide +kernel
theorem dX7_mark_5 : decode cX7_mark 5 = .ok (.getfield 10, 3) := by decide +kernel
theorem dX7_mark_8 : decode cX7_mark 8 = .ok (.invokevirtual 181, 3) := by decide +kernel
theorem dX7_mark_11 : decode cX7_mark 11 = .ok (.aload_n 0, 1) := by decide +kernel
theorem dX7_mark_12 : decode cX7_mark 12 = .ok (.getfield 39, 3) := by decide +kernel
theorem dX7_mark_15 : decode cX7_mark 15 = .ok (.getfield 184, 3) := by decide +kernel
theorem dX7_mark_18 : decode cX7_mark 18 = .ok (.ireturn, 1) := by decide +kernel
theorem dX7_undo_0 : decode cX7_undo 0 = .ok (.aload_n 0, 1) := by decide +kernel
theorem dX7_undo_1 : decode cX7_undo 1 = .ok (.getfield 39, 3) := by decide +kernel
theorem dX7_undo_4 : decode cX7_undo 4 = .ok (.invokevirtual 187, 3) := by decide +kernel
theorem dX7_undo_7 : decode cX7_undo 7 = .ok (.astore_n 1, 1) := by decide +kernel
theorem dX7_undo_8 : decode cX7_undo 8 = .ok (.aload_n 1, 1) := by decide +kernel
theorem dX7_undo_9 : decode cX7_undo 9 = .ok (.ifnonnull 6, 3) := by decide +kernel
theorem dX7_undo_12 : decode cX7_undo 12 = .ok (.bipush (-3), 2) := by decide +kernel
theorem dX7_undo_14 : decode cX7_undo 14 = .ok (.ireturn, 1) := by decide +kernel
theorem dX7_undo_15 : decode cX7_undo 15 = .ok (.aload_n 0, 1) := by decide +kernel
theorem dX7_undo_16 : decode cX7_undo 16 = .ok (.aload_n 1, 1) := by decide +kernel
theorem dX7_undo_17 : decode cX7_undo 17 = .ok (.invokevirtual 173, 3) := by decide +kernel
theorem dX7_undo_20 : decode cX7_undo 20 = .ok (.aload_n 0, 1) := by decide +kernel
theorem dX7_undo_21 : decode cX7_undo 21 = .ok (.getfield 39, 3) := by decide +kernel
theorem dX7_undo_24 : decode cX7_undo 24 = .ok (.getfield 184, 3) := by decide +kernel
theorem dX7_undo_27 : decode cX7_undo 27 = .ok (.ireturn, 1) := by decide +kernel
theorem dX7_restart_0 : decode cX7_restart 0 = .ok (.aload_n 0, 1) := by decide +kernel
theorem dX7_restart_1 : decode cX7_restart 1 = .ok (.aload_n 0, 1) := by decide +kernel
theorem dX7_restart_2 : decode cX7_restart 2 = .ok (.getfield 16, 3) := by decide +kernel
theorem dX7_restart_5 : decode cX7_restart 5 = .ok (.invokevirtual 173, 3) := by decide +kernel
theorem dX7_restart_8 : decode cX7_restart 8 = .ok (.iconst 1, 1) := by decide +kernel
theorem dX7_restart_9 : decode cX7_restart 9 = .ok (.ireturn, 1) := by decide +kernel
theorem dX7_at_0 : decode cX7_at 0 = .ok (.aload_n 0, 1) := by decide +kernel
theorem dX7_at_1 : decode cX7_at 1 = .ok (.getfield 29, 3) := by decide +kernel
theorem dX7_at_4 : decode cX7_at 4 = .ok (.iload_n 1, 1) := by decide +kernel
theorem dX7_at_5 : decode cX7_at 5 = .ok (.lconst 1, 1) := by decide +kernel
theorem dX7_at_6 : decode cX7_at 6 = .ok (.invokevirtual 191, 3) := by decide +kernel
theorem dX7_at_9 : decode cX7_at 9 = .ok (.ifCond .eq 14, 3) := by decide +kernel
theorem dX7_at_12 : decode cX7_at 12 = .ok (.aload_n 0, 1) := by decide +kernel
theorem dX7_at_13 : decode cX7_at 13 = .ok (.getfield 29, 3) := by decide +kernel
theorem dX7_at_16 : decode cX7_at 16 = .ok (.iload_n 1, 1) := by decide +kernel
theorem dX7_at_17 : decode cX7_at 17 = .ok (.invokevirtual 195, 3) := by decide +kernel
theorem dX7_at_20 : decode cX7_at 20 = .ok (.goto 4, 3) := by decide +kernel
theorem dX7_at_23 : decode cX7_at 23 = .ok (.iconst (-1), 1) := by decide +kernel
theorem dX7_at_24 : decode cX7_at 24 = .ok (.ireturn, 1) := by decide +kernel
theorem dX7_alter_0 : decode cX7_alter 0 = .ok (.aload_n 0, 1) := by decide +kernel
theorem dX7_alter_1 : decode cX7_alter 1 = .ok (.getfield 29, 3) := by decide +kernel
theorem dX7_alter_4 : decode cX7_alter 4 = .ok (.iload_n 1, 1) := by decide +kernel
theorem dX7_alter_5 : decode cX7_alter 5 = .ok (.lconst 1, 1) := by decide +kernel
theorem dX7_alter_6 : decode cX7_alter 6 = .ok (.invokevirtual 191, 3) := by decide +kernel
theorem dX7_alter_9 : decode cX7_alter 9 = .ok (.ifCond .ne 5, 3) := by decide +kernel
theorem dX7_alter_12 : decode cX7_alter 12 = .ok (.iconst (-1), 1) := by decide +kernel
theorem dX7_alter_13 : decode cX7_alter 13 = .ok (.ireturn, 1) := by decide +kernel
theorem dX7_alter_14 : decode cX7_alter 14 = .ok (.iload_n 2, 1) := by decide +kernel
theorem dX7_alter_15 : decode cX7_alter 15 = .ok (.invokestatic 87, 3) := by decide +kernel
theorem dX7_alter_18 : decode cX7_alter 18 = .ok (.ifCond .ne 6, 3) := by decide +kernel
theorem dX7_alter_21 : decode cX7_alter 21 = .ok (.bipush (-2), 2) := by decide +kernel
theorem dX7_alter_23 : decode cX7_alter 23 = .ok (.ireturn, 1) := by decide +kernel
theorem dX7_alter_24 : decode cX7_alter 24 = .ok (.aload_n 0, 1) := by decide +kernel
theorem dX7_alter_25 : decode cX7_alter 25 = .ok (.getfield 29, 3) := by decide +kernel
theorem dX7_alter_28 : decode cX7_alter 28 = .ok (.iload_n 1, 1) := by decide +kernel
theorem dX7_alter_29 : decode cX7_alter 29 = .ok (.invokevirtual 195, 3) := by decide +kernel
theorem dX7_alter_32 : decode cX7_alter 32 = .ok (.iload_n 2, 1) := by decide +kernel
theorem dX7_alter_33 : decode cX7_alter 33 = .ok (.ixor, 1) := by decide +kernel
theorem dX7_alter_34 : decode cX7_alter 34 = .ok (.istore_n 3, 1) := by decide +kernel
theorem dX7_alter_35 : decode cX7_alter 35 = .ok (.aload_n 0, 1) := by decide +kernel
theorem dX7_alter_36 : decode cX7_alter 36 = .ok (.getfield 29, 3) := by decide +kernel
theorem dX7_alter_39 : decode cX7_alter 39 = .ok (.iload_n 1, 1) := by decide +kernel
theorem dX7_alter_40 : decode cX7_alter 40 = .ok (.iload_n 3, 1) := by decide +kernel
theorem dX7_alter_41 : decode cX7_alter 41 = .ok (.invokevirtual 198, 3) := by decide +kernel
theorem dX7_alter_44 : decode cX7_alter 44 = .ok (.iload_n 3, 1) := by decide +kernel
theorem dX7_alter_45 : decode cX7_alter 45 = .ok (.ireturn, 1) := by decide +kernel
theorem dX7_cut_0 : decode cX7_cut 0 = .ok (.iload_n 1, 1) := by decide +kernel
theorem dX7_cut_1 : decode cX7_cut 1 = .ok (.ifCond .lt 14, 3) := by decide +kernel
theorem dX7_cut_4 : decode cX7_cut 4 = .ok (.iload_n 1, 1) := by decide +kernel
theorem dX7_cut_5 : decode cX7_cut 5 = .ok (.aload_n 0, 1) := by decide +kernel
theorem dX7_cut_6 : decode cX7_cut 6 = .ok (.getfield 29, 3) := by decide +kernel
theorem dX7_cut_9 : decode cX7_cut 9 = .ok (.getfield 159, 3) := by decide +kernel
theorem dX7_cut_12 : decode cX7_cut 12 = .ok (.if_icmp .le 6, 3) := by decide +kernel
theorem dX7_cut_15 : decode cX7_cut 15 = .ok (.bipush (-2), 2) := by decide +kernel
theorem dX7_cut_17 : decode cX7_cut 17 = .ok (.ireturn, 1) := by decide +kernel
theorem dX7_cut_18 : decode cX7_cut 18 = .ok (.aload_n 0, 1) := by decide +kernel
theorem dX7_cut_19 : decode cX7_cut 19 = .ok (.getfield 29, 3) := by decide +kernel
theorem dX7_cut_22 : decode cX7_cut 22 = .ok (.getfield 159, 3) := by decide +kernel
theorem dX7_cut_25 : decode cX7_cut 25 = .ok (.iload_n 1, 1) := by decide +kernel
theorem dX7_cut_26 : decode cX7_cut 26 = .ok (.isub, 1) := by decide +kernel
theorem dX7_cut_27 : decode cX7_cut 27 = .ok (.istore_n 2, 1) := by decide +kernel
theorem dX7_cut_28 : decode cX7_cut 28 = .ok (.aload_n 0, 1) := by decide +kernel
theorem dX7_cut_29 : decode cX7_cut 29 = .ok (.getfield 29, 3) := by decide +kernel
theorem dX7_cut_32 : decode cX7_cut 32 = .ok (.iload_n 1, 1) := by decide +kernel
theorem dX7_cut_33 : decode cX7_cut 33 = .ok (.putfield 159, 3) := by decide +kernel
theorem dX7_cut_36 : decode cX7_cut 36 = .ok (.iload_n 2, 1) := by decide +kernel
theorem dX7_cut_37 : decode cX7_cut 37 = .ok (.ireturn, 1) := by decide +kernel
theorem dX7_more_0 : decode cX7_more 0 = .ok (.iload_n 3, 1) := by decide +kernel
theorem dX7_more_1 : decode cX7_more 1 = .ok (.ifCond .lt 9, 3) := by decide +kernel
theorem dX7_more_4 : decode cX7_more 4 = .ok (.iload_n 3, 1) := by decide +kernel
theorem dX7_more_5 : decode cX7_more 5 = .ok (.bipush 8, 2) := by decide +kernel
theorem dX7_more_7 : decode cX7_more 7 = .ok (.if_icmp .le 6, 3) := by decide +kernel
theorem dX7_more_10 : decode cX7_more 10 = .ok (.bipush (-2), 2) := by decide +kernel
theorem dX7_more_12 : decode cX7_more 12 = .ok (.ireturn, 1) := by decide +kernel
theorem dX7_more_13 : decode cX7_more 13 = .ok (.aload_n 0, 1) := by decide +kernel
theorem dX7_more_14 : decode cX7_more 14 = .ok (.getfield 29, 3) := by decide +kernel
theorem dX7_more_17 : decode cX7_more 17 = .ok (.getfield 159, 3) := by decide +kernel
theorem dX7_more_20 : decode cX7_more 20 = .ok (.iload_n 3, 1) := by decide +kernel
theorem dX7_more_21 : decode cX7_more 21 = .ok (.iadd, 1) := by decide +kernel
theorem dX7_more_22 : decode cX7_more 22 = .ok (.sipush 1200, 3) := by decide +kernel
theorem dX7_more_25 : decode cX7_more 25 = .ok (.if_icmp .le 6, 3) := by decide +kernel
theorem dX7_more_28 : decode cX7_more 28 = .ok (.bipush (-4), 2) := by decide +kernel
theorem dX7_more_30 : decode cX7_more 30 = .ok (.ireturn, 1) := by decide +kernel
theorem dX7_more_31 : decode cX7_more 31 = .ok (.iload_n 3, 1) := by decide +kernel
theorem dX7_more_32 : decode cX7_more 32 = .ok (.iconst 1, 1) := by decide +kernel
theorem dX7_more_33 : decode cX7_more 33 = .ok (.isub, 1) := by decide +kernel
theorem dX7_more_34 : decode cX7_more 34 = .ok (.istore 4, 2) := by decide +kernel
theorem dX7_more_36 : decode cX7_more 36 = .ok (.iload 4, 2) := by decide +kernel
theorem dX7_more_38 : decode cX7_more 38 = .ok (.ifCond .lt 28, 3) := by decide +kernel
theorem dX7_more_41 : decode cX7_more 41 = .ok (.aload_n 0, 1) := by decide +kernel
theorem dX7_more_42 : decode cX7_more 42 = .ok (.getfield 29, 3) := by decide +kernel
theorem dX7_more_45 : decode cX7_more 45 = .ok (.lload_n 1, 1) := by decide +kernel
theorem dX7_more_46 : decode cX7_more 46 = .ok (.bipush 8, 2) := by decide +kernel
theorem dX7_more_48 : decode cX7_more 48 = .ok (.iload 4, 2) := by decide +kernel
theorem dX7_more_50 : decode cX7_more 50 = .ok (.imul, 1) := by decide +kernel
theorem dX7_more_51 : decode cX7_more 51 = .ok (.lushr, 1) := by decide +kernel
theorem dX7_more_52 : decode cX7_more 52 = .ok (.l2i, 1) := by decide +kernel
theorem dX7_more_53 : decode cX7_more 53 = .ok (.sipush 255, 3) := by decide +kernel
theorem dX7_more_56 : decode cX7_more 56 = .ok (.iand, 1) := by decide +kernel
theorem dX7_more_57 : decode cX7_more 57 = .ok (.invokevirtual 202, 3) := by decide +kernel
theorem dX7_more_60 : decode cX7_more 60 = .ok (.iinc 4 (-1), 3) := by decide +kernel
theorem dX7_more_63 : decode cX7_more 63 = .ok (.goto (-27), 3) := by decide +kernel
theorem dX7_more_66 : decode cX7_more 66 = .ok (.aload_n 0, 1) := by decide +kernel
theorem dX7_more_67 : decode cX7_more 67 = .ok (.getfield 29, 3) := by decide +kernel
theorem dX7_more_70 : decode cX7_more 70 = .ok (.getfield 159, 3) := by decide +kernel
theorem dX7_more_73 : decode cX7_more 73 = .ok (.ireturn, 1) := by decide +kernel
theorem dX7_seal_0 : decode cX7_seal 0 = .ok (.aload_n 0, 1) := by decide +kernel
theorem dX7_seal_1 : decode cX7_seal 1 = .ok (.getfield 29, 3) := by decide +kernel
theorem dX7_seal_4 : decode cX7_seal 4 = .ok (.getfield 159, 3) := by decide +kernel
theorem dX7_seal_7 : decode cX7_seal 7 = .ok (.bipush 8, 2) := by decide +kernel
theorem dX7_seal_9 : decode cX7_seal 9 = .ok (.if_icmp .ge 6, 3) := by decide +kernel
theorem dX7_seal_12 : decode cX7_seal 12 = .ok (.bipush (-3), 2) := by decide +kernel
theorem dX7_seal_14 : decode cX7_seal 14 = .ok (.ireturn, 1) := by decide +kernel
theorem dX7_seal_15 : decode cX7_seal 15 = .ok (.aload_n 0, 1) := by decide +kernel
theorem dX7_seal_16 : decode cX7_seal 16 = .ok (.getfield 29, 3) := by decide +kernel
theorem dX7_seal_19 : decode cX7_seal 19 = .ok (.getfield 159, 3) := by decide +kernel
theorem dX7_seal_22 : decode cX7_seal 22 = .ok (.bipush 8, 2) := by decide +kernel
theorem dX7_seal_24 : decode cX7_seal 24 = .ok (.isub, 1) := by decide +kernel
theorem dX7_seal_25 : decode cX7_seal 25 = .ok (.istore_n 1, 1) := by decide +kernel
theorem dX7_seal_26 : decode cX7_seal 26 = .ok (.aload_n 0, 1) := by decide +kernel
theorem dX7_seal_27 : decode cX7_seal 27 = .ok (.getfield 29, 3) := by decide +kernel
theorem dX7_seal_30 : decode cX7_seal 30 = .ok (.iconst 4, 1) := by decide +kernel
theorem dX7_seal_31 : decode cX7_seal 31 = .ok (.iload_n 1, 1) := by decide +kernel
theorem dX7_seal_32 : decode cX7_seal 32 = .ok (.invokevirtual 205, 3) := by decide +kernel
theorem dX7_seal_35 : decode cX7_seal 35 = .ok (.iload_n 1, 1) := by decide +kernel
theorem dX7_seal_36 : decode cX7_seal 36 = .ok (.ireturn, 1) := by decide +kernel
theorem dX7_count_0 : decode cX7_count 0 = .ok (.iload_n 1, 1) := by decide +kernel
theorem dX7_count_1 : decode cX7_count 1 = .ok (.tableswitch 99 0 6 #[43, 51, 59, 67, 75, 83, 91], 43) := by decide +kernel
theorem dX7_count_44 : decode cX7_count 44 = .ok (.aload_n 0, 1) := by decide +kernel
theorem dX7_count_45 : decode cX7_count 45 = .ok (.getfield 10, 3) := by decide +kernel
theorem dX7_count_48 : decode cX7_count 48 = .ok (.getfield 77, 3) := by decide +kernel
theorem dX7_count_51 : decode cX7_count 51 = .ok (.ireturn, 1) := by decide +kernel
theorem dX7_count_52 : decode cX7_count 52 = .ok (.aload_n 0, 1) := by decide +kernel
theorem dX7_count_53 : decode cX7_count 53 = .ok (.getfield 10, 3) := by decide +kernel
theorem dX7_count_56 : decode cX7_count 56 = .ok (.getfield 105, 3) := by decide +kernel
theorem dX7_count_59 : decode cX7_count 59 = .ok (.ireturn, 1) := by decide +kernel
theorem dX7_count_60 : decode cX7_count 60 = .ok (.aload_n 0, 1) := by decide +kernel
theorem dX7_count_61 : decode cX7_count 61 = .ok (.getfield 10, 3) := by decide +kernel
theorem dX7_count_64 : decode cX7_count 64 = .ok (.getfield 132, 3) := by decide +kernel
theorem dX7_count_67 : decode cX7_count 67 = .ok (.ireturn, 1) := by decide +kernel
theorem dX7_count_68 : decode cX7_count 68 = .ok (.aload_n 0, 1) := by decide +kernel
theorem dX7_count_69 : decode cX7_count 69 = .ok (.getfield 29, 3) := by decide +kernel
theorem dX7_count_72 : decode cX7_count 72 = .ok (.getfield 159, 3) := by decide +kernel
theorem dX7_count_75 : decode cX7_count 75 = .ok (.ireturn, 1) := by decide +kernel
theorem dX7_count_76 : decode cX7_count 76 = .ok (.aload_n 0, 1) := by decide +kernel
theorem dX7_count_77 : decode cX7_count 77 = .ok (.getfield 39, 3) := by decide +kernel
theorem dX7_count_80 : decode cX7_count 80 = .ok (.getfield 184, 3) := by decide +kernel
theorem dX7_count_83 : decode cX7_count 83 = .ok (.ireturn, 1) := by decide +kernel
theorem dX7_count_84 : decode cX7_count 84 = .ok (.aload_n 0, 1) := by decide +kernel
theorem dX7_count_85 : decode cX7_count 85 = .ok (.getfield 22, 3) := by decide +kernel
theorem dX7_count_88 : decode cX7_count 88 = .ok (.getfield 208, 3) := by decide +kernel
theorem dX7_count_91 : decode cX7_count 91 = .ok (.ireturn, 1) := by decide +kernel
theorem dX7_count_92 : decode cX7_count 92 = .ok (.aload_n 0, 1) := by decide +kernel
theorem dX7_count_93 : decode cX7_count 93 = .ok (.getfield 22, 3) := by decide +kernel
theorem dX7_count_96 : decode cX7_count 96 = .ok (.invokevirtual 209, 3) := by decide +kernel
theorem dX7_count_99 : decode cX7_count 99 = .ok (.ireturn, 1) := by decide +kernel
theorem dX7_count_100 : decode cX7_count 100 = .ok (.bipush (-2), 2) := by decide +kernel
theorem dX7_count_102 : decode cX7_count 102 = .ok (.ireturn, 1) := by decide +kernel
theorem dX7_hash_0 : decode cX7_hash 0 = .ok (.aload_n 0, 1) := by decide +kernel
theorem dX7_hash_1 : decode cX7_hash 1 = .ok (.getfield 10, 3) := by decide +kernel
theorem dX7_hash_4 : decode cX7_hash 4 = .ok (.invokevirtual 212, 3) := by decide +kernel
theorem dX7_hash_7 : decode cX7_hash 7 = .ok (.ireturn, 1) := by decide +kernel
theorem dX7_bringBack_0 : decode cX7_bringBack 0 = .ok (.aload_n 0, 1) := by decide +kernel
theorem dX7_bringBack_1 : decode cX7_bringBack 1 = .ok (.getfield 10, 3) := by decide +kernel
theorem dX7_bringBack_4 : decode cX7_bringBack 4 = .ok (.aload_n 1, 1) := by decide +kernel
theorem dX7_bringBack_5 : decode cX7_bringBack 5 = .ok (.aload_n 0, 1) := by decide +kernel
theorem dX7_bringBack_6 : decode cX7_bringBack 6 = .ok (.getfield 43, 3) := by decide +kernel
theorem dX7_bringBack_9 : decode cX7_bringBack 9 = .ok (.aload_n 0, 1) := by decide +kernel
theorem dX7_bringBack_10 : decode cX7_bringBack 10 = .ok (.getfield 47, 3) := by decide +kernel
theorem dX7_bringBack_13 : decode cX7_bringBack 13 = .ok (.invokevirtual 215, 3) := by decide +kernel
theorem dX7_bringBack_16 : decode cX7_bringBack 16 = .ok (.return_, 1) := by decide +kernel
theorem dX7_isByte_0 : decode cX7_isByte 0 = .ok (.iload_n 0, 1) := by decide +kernel
theorem dX7_isByte_1 : decode cX7_isByte 1 = .ok (.ifCond .lt 14, 3) := by decide +kernel
theorem dX7_isByte_4 : decode cX7_isByte 4 = .ok (.iload_n 0, 1) := by decide +kernel
theorem dX7_isByte_5 : decode cX7_isByte 5 = .ok (.sipush 255, 3) := by decide +kernel
theorem dX7_isByte_8 : decode cX7_isByte 8 = .ok (.if_icmp .gt 7, 3) := by decide +kernel
theorem dX7_isByte_11 : decode cX7_isByte 11 = .ok (.iconst 1, 1) := by decide +kernel
theorem dX7_isByte_12 : decode cX7_isByte 12 = .ok (.goto 4, 3) := by decide +kernel
theorem dX7_isByte_15 : decode cX7_isByte 15 = .ok (.iconst 0, 1) := by decide +kernel
theorem dX7_isByte_16 : decode cX7_isByte 16 = .ok (.ireturn, 1) := by decide +kernel
theorem dX7_isBlockLength_0 : decode cX7_isBlockLength 0 = .ok (.iload_n 0, 1) := by decide +kernel
theorem dX7_isBlockLength_1 : decode cX7_isBlockLength 1 = .ok (.iconst 1, 1) := by decide +kernel
theorem dX7_isBlockLength_2 : decode cX7_isBlockLength 2 = .ok (.if_icmp .lt 13, 3) := by decide +kernel
theorem dX7_isBlockLength_5 : decode cX7_isBlockLength 5 = .ok (.iload_n 0, 1) := by decide +kernel
theorem dX7_isBlockLength_6 : decode cX7_isBlockLength 6 = .ok (.bipush 64, 2) := by decide +kernel
theorem dX7_isBlockLength_8 : decode cX7_isBlockLength 8 = .ok (.if_icmp .gt 7, 3) := by decide +kernel
theorem dX7_isBlockLength_11 : decode cX7_isBlockLength 11 = .ok (.iconst 1, 1) := by decide +kernel
theorem dX7_isBlockLength_12 : decode cX7_isBlockLength 12 = .ok (.goto 4, 3) := by decide +kernel
theorem dX7_isBlockLength_15 : decode cX7_isBlockLength 15 = .ok (.iconst 0, 1) := by decide +kernel
theorem dX7_isBlockLength_16 : decode cX7_isBlockLength 16 = .ok (.ireturn, 1) := by decide +kernel
theorem dX8_init_0 : decode cX8_init 0 = .ok (.aload_n 0, 1) := by decide +kernel
theorem dX8_init_1 : decode cX8_init 1 = .ok (.invokespecial 1, 3) := by decide +kernel
theorem dX8_init_4 : decode cX8_init 4 = .ok (.aload_n 0, 1) := by decide +kernel
theorem dX8_init_5 : decode cX8_init 5 = .ok (.sipush 512, 3) := by decide +kernel
theorem dX8_init_8 : decode cX8_init 8 = .ok (.newarray .int, 2) := by decide +kernel
theorem dX8_init_10 : decode cX8_init 10 = .ok (.putfield 7, 3) := by decide +kernel
theorem dX8_init_13 : decode cX8_init 13 = .ok (.aload_n 0, 1) := by decide +kernel
theorem dX8_init_14 : decode cX8_init 14 = .ok (.bipush 40, 2) := by decide +kernel
theorem dX8_init_16 : decode cX8_init 16 = .ok (.newarray .int, 2) := by decide +kernel
theorem dX8_init_18 : decode cX8_init 18 = .ok (.putfield 13, 3) := by decide +kernel
theorem dX8_init_21 : decode cX8_init 21 = .ok (.aload_n 0, 1) := by decide +kernel
theorem dX8_init_22 : decode cX8_init 22 = .ok (.bipush 8, 2) := by decide +kernel
theorem dX8_init_24 : decode cX8_init 24 = .ok (.newarray .int, 2) := by decide +kernel
theorem dX8_init_26 : decode cX8_init 26 = .ok (.putfield 16, 3) := by decide +kernel
theorem dX8_init_29 : decode cX8_init 29 = .ok (.aload_n 0, 1) := by decide +kernel
theorem dX8_init_30 : decode cX8_init 30 = .ok (.bipush 8, 2) := by decide +kernel
theorem dX8_init_32 : decode cX8_init 32 = .ok (.newarray .int, 2) := by decide +kernel
theorem dX8_init_34 : decode cX8_init 34 = .ok (.putfield 19, 3) := by decide +kernel
theorem dX8_init_37 : decode cX8_init 37 = .ok (.aload_n 0, 1) := by decide +kernel
theorem dX8_init_38 : decode cX8_init 38 = .ok (.sipush 1200, 3) := by decide +kernel
theorem dX8_init_41 : decode cX8_init 41 = .ok (.newarray .int, 2) := by decide +kernel
theorem dX8_init_43 : decode cX8_init 43 = .ok (.putfield 22, 3) := by decide +kernel
theorem dX8_init_46 : decode cX8_init 46 = .ok (.aload_n 0, 1) := by decide +kernel
theorem dX8_init_47 : decode cX8_init 47 = .ok (.iconst 4, 1) := by decide +kernel
theorem dX8_init_48 : decode cX8_init 48 = .ok (.newarray .int, 2) := by decide +kernel
theorem dX8_init_50 : decode cX8_init 50 = .ok (.putfield 25, 3) := by decide +kernel
theorem dX8_init_53 : decode cX8_init 53 = .ok (.aload_n 0, 1) := by decide +kernel
theorem dX8_init_54 : decode cX8_init 54 = .ok (.iconst 4, 1) := by decide +kernel
theorem dX8_init_55 : decode cX8_init 55 = .ok (.newarray .int, 2) := by decide +kernel
theorem dX8_init_57 : decode cX8_init 57 = .ok (.putfield 28, 3) := by decide +kernel
theorem dX8_init_60 : decode cX8_init 60 = .ok (.aload_n 0, 1) := by decide +kernel
theorem dX8_init_61 : decode cX8_init 61 = .ok (.sipush 240, 3) := by decide +kernel
theorem dX8_init_64 : decode cX8_init 64 = .ok (.newarray .int, 2) := by decide +kernel
theorem dX8_init_66 : decode cX8_init 66 = .ok (.putfield 31, 3) := by decide +kernel
theorem dX8_init_69 : decode cX8_init 69 = .ok (.aload_n 0, 1) := by decide +kernel
theorem dX8_init_70 : decode cX8_init 70 = .ok (.iconst 3, 1) := by decide +kernel
theorem dX8_init_71 : decode cX8_init 71 = .ok (.newarray .int, 2) := by decide +kernel
theorem dX8_init_73 : decode cX8_init 73 = .ok (.putfield 34, 3) := by decide +kernel
theorem dX8_init_76 : decode cX8_init 76 = .ok (.aload_n 0, 1) := by decide +kernel
theorem dX8_init_77 : decode cX8_init 77 = .ok (.sipush 1536, 3) := by decide +kernel
theorem dX8_init_80 : decode cX8_init 80 = .ok (.newarray .int, 2) := by decide +kernel
theorem dX8_init_82 : decode cX8_init 82 = .ok (.putfield 37, 3) := by decide +kernel
theorem dX8_init_85 : decode cX8_init 85 = .ok (.aload_n 0, 1) := by decide +kernel
theorem dX8_init_86 : decode cX8_init 86 = .ok (.iconst 3, 1) := by decide +kernel
theorem dX8_init_87 : decode cX8_init 87 = .ok (.newarray .int, 2) := by decide +kernel
theorem dX8_init_89 : decode cX8_init 89 = .ok (.putfield 40, 3) := by decide +kernel
theorem dX8_init_92 : decode cX8_init 92 = .ok (.aload_n 0, 1) := by decide +kernel
theorem dX8_init_93 : decode cX8_init 93 = .ok (.bipush 120, 2) := by decide +kernel
theorem dX8_init_95 : decode cX8_init 95 = .ok (.newarray .int, 2) := by decide +kernel
theorem dX8_init_97 : decode cX8_init 97 = .ok (.putfield 43, 3) := by decide +kernel
theorem dX8_init_100 : decode cX8_init 100 = .ok (.aload_n 0, 1) := by decide +kernel
theorem dX8_init_101 : decode cX8_init 101 = .ok (.iconst 3, 1) := by decide +kernel
theorem dX8_init_102 : decode cX8_init 102 = .ok (.newarray .int, 2) := by decide +kernel
theorem dX8_init_104 : decode cX8_init 104 = .ok (.putfield 46, 3) := by decide +kernel
theorem dX8_init_107 : decode cX8_init 107 = .ok (.aload_n 0, 1) := by decide +kernel
theorem dX8_init_108 : decode cX8_init 108 = .ok (.bipush 24, 2) := by decide +kernel
theorem dX8_init_110 : decode cX8_init 110 = .ok (.newarray .int, 2) := by decide +kernel
theorem dX8_init_112 : decode cX8_init 112 = .ok (.putfield 49, 3) := by decide +kernel
theorem dX8_init_115 : decode cX8_init 115 = .ok (.aload_n 0, 1) := by decide +kernel
theorem dX8_init_116 : decode cX8_init 116 = .ok (.bipush 24, 2) := by decide +kernel
theorem dX8_init_118 : decode cX8_init 118 = .ok (.newarray .int, 2) := by decide +kernel
theorem dX8_init_120 : decode cX8_init 120 = .ok (.putfield 52, 3) := by decide +kernel
theorem dX8_init_123 : decode cX8_init 123 = .ok (.aload_n 0, 1) := by decide +kernel
theorem dX8_init_124 : decode cX8_init 124 = .ok (.sipush 4000, 3) := by decide +kernel
theorem dX8_init_127 : decode cX8_init 127 = .ok (.newarray .int, 2) := by decide +kernel
theorem dX8_init_129 : decode cX8_init 129 = .ok (.putfield 55, 3) := by decide +kernel
theorem dX8_init_132 : decode cX8_init 132 = .ok (.aload_n 0, 1) := by decide +kernel
theorem dX8_init_133 : decode cX8_init 133 = .ok (.sipush 512, 3) := by decide +kernel
theorem dX8_init_136 : decode cX8_init 136 = .ok (.newarray .int, 2) := by decide +kernel
theorem dX8_init_138 : decode cX8_init 138 = .ok (.putfield 58, 3) := by decide +kernel
theorem dX8_init_141 : decode cX8_init 141 = .ok (.aload_n 0, 1) := by decide +kernel
theorem dX8_init_142 : decode cX8_init 142 = .ok (.bipush 40, 2) := by decide +kernel
theorem dX8_init_144 : decode cX8_init 144 = .ok (.newarray .int, 2) := by decide +kernel
theorem dX8_init_146 : decode cX8_init 146 = .ok (.putfield 61, 3) := by decide +kernel
theorem dX8_init_149 : decode cX8_init 149 = .ok (.aload_n 0, 1) := by decide +kernel
theorem dX8_init_150 : decode cX8_init 150 = .ok (.bipush 8, 2) := by decide +kernel
theorem dX8_init_152 : decode cX8_init 152 = .ok (.newarray .int, 2) := by decide +kernel
theorem dX8_init_154 : decode cX8_init 154 = .ok (.putfield 64, 3) := by decide +kernel
theorem dX8_init_157 : decode cX8_init 157 = .ok (.aload_n 0, 1) := by decide +kernel
theorem dX8_init_158 : decode cX8_init 158 = .ok (.bipush 8, 2) := by decide +kernel
theorem dX8_init_160 : decode cX8_init 160 = .ok (.newarray .int, 2) := by decide +kernel
theorem dX8_init_162 : decode cX8_init 162 = .ok (.putfield 67, 3) := by decide +kernel
theorem dX8_init_165 : decode cX8_init 165 = .ok (.aload_n 0, 1) := by decide +kernel
theorem dX8_init_166 : decode cX8_init 166 = .ok (.iconst 4, 1) := by decide +kernel
theorem dX8_init_167 : decode cX8_init 167 = .ok (.newarray .int, 2) := by decide +kernel
theorem dX8_init_169 : decode cX8_init 169 = .ok (.putfield 70, 3) := by decide +kernel
theorem dX8_init_172 : decode cX8_init 172 = .ok (.aload_n 0, 1) := by decide +kernel
theorem dX8_init_173 : decode cX8_init 173 = .ok (.iconst 4, 1) := by decide +kernel
theorem dX8_init_174 : decode cX8_init 174 = .ok (.newarray .int, 2) := by decide +kernel
theorem dX8_init_176 : decode cX8_init 176 = .ok (.putfield 73, 3) := by decide +kernel
theorem dX8_init_179 : decode cX8_init 179 = .ok (.aload_n 0, 1) := by decide +kernel
theorem dX8_init_180 : decode cX8_init 180 = .ok (.sipush 240, 3) := by decide +kernel
theorem dX8_init_183 : decode cX8_init 183 = .ok (.newarray .int, 2) := by decide +kernel
theorem dX8_init_185 : decode cX8_init 185 = .ok (.putfield 76, 3) := by decide +kernel
theorem dX8_init_188 : decode cX8_init 188 = .ok (.aload_n 0, 1) := by decide +kernel
theorem dX8_init_189 : decode cX8_init 189 = .ok (.iload_n 1, 1) := by decide +kernel
theorem dX8_init_190 : decode cX8_init 190 = .ok (.putfield 79, 3) := by decide +kernel
theorem dX8_init_193 : decode cX8_init 193 = .ok (.aload_n 0, 1) := by decide +kernel
theorem dX8_init_194 : decode cX8_init 194 = .ok (.iload_n 2, 1) := by decide +kernel
theorem dX8_init_195 : decode cX8_init 195 = .ok (.i2l, 1) := by decide +kernel
theorem dX8_init_196 : decode cX8_init 196 = .ok (.ldc2_w 83, 3) := by decide +kernel
theorem dX8_init_199 : decode cX8_init 199 = .ok (.ldc2_w 85, 3) := by decide +kernel
theorem dX8_init_202 : decode cX8_init 202 = .ok (.invokestatic 87, 3) := by decide +kernel
theorem dX8_init_205 : decode cX8_init 205 = .ok (.ifCond .eq 14, 3) := by decide +kernel
theorem dX8_init_208 : decode cX8_init 208 = .ok (.iload_n 2, 1) := by decide +kernel
theorem dX8_init_209 : decode cX8_init 209 = .ok (.bipush 16, 2) := by decide +kernel
theorem dX8_init_211 : decode cX8_init 211 = .ok (.irem, 1) := by decide +kernel
theorem dX8_init_212 : decode cX8_init 212 = .ok (.ifCond .ne 7, 3) := by decide +kernel
theorem dX8_init_215 : decode cX8_init 215 = .ok (.iload_n 2, 1) := by decide +kernel
theorem dX8_init_216 : decode cX8_init 216 = .ok (.goto 5, 3) := by decide +kernel
theorem dX8_init_219 : decode cX8_init 219 = .ok (.bipush 16, 2) := by decide +kernel
theorem dX8_init_221 : decode cX8_init 221 = .ok (.putfield 91, 3) := by decide +kernel
theorem dX8_init_224 : decode cX8_init 224 = .ok (.aload_n 0, 1) := by decide +kernel
theorem dX8_init_225 : decode cX8_init 225 = .ok (.iload_n 3, 1) := by decide +kernel
theorem dX8_init_226 : decode cX8_init 226 = .ok (.i2l, 1) := by decide +kernel
theorem dX8_init_227 : decode cX8_init 227 = .ok (.ldc2_w 94, 3) := by decide +kernel
theorem dX8_init_230 : decode cX8_init 230 = .ok (.ldc2_w 96, 3) := by decide +kernel
theorem dX8_init_233 : decode cX8_init 233 = .ok (.invokestatic 87, 3) := by decide +kernel
theorem dX8_init_236 : decode cX8_init 236 = .ok (.ifCond .eq 14, 3) := by decide +kernel
theorem dX8_init_239 : decode cX8_init 239 = .ok (.iload_n 3, 1) := by decide +kernel
theorem dX8_init_240 : decode cX8_init 240 = .ok (.bipush 32, 2) := by decide +kernel
theorem dX8_init_242 : decode cX8_init 242 = .ok (.irem, 1) := by decide +kernel
theorem dX8_init_243 : decode cX8_init 243 = .ok (.ifCond .ne 7, 3) := by decide +kernel
theorem dX8_init_246 : decode cX8_init 246 = .ok (.iload_n 3, 1) := by decide +kernel
theorem dX8_init_247 : decode cX8_init 247 = .ok (.goto 6, 3) := by decide +kernel
theorem dX8_init_250 : decode cX8_init 250 = .ok (.sipush 128, 3) := by decide +kernel
theorem dX8_init_253 : decode cX8_init 253 = .ok (.putfield 98, 3) := by decide +kernel
theorem dX8_init_256 : decode cX8_init 256 = .ok (.aload_n 0, 1) := by decide +kernel
theorem dX8_init_257 : decode cX8_init 257 = .ok (.aload_n 0, 1) := by decide +kernel
theorem dX8_init_258 : decode cX8_init 258 = .ok (.getfield 98, 3) := by decide +kernel
theorem dX8_init_261 : decode cX8_init 261 = .ok (.putfield 101, 3) := by decide +kernel
theorem dX8_init_264 : decode cX8_init 264 = .ok (.iconst 0, 1) := by decide +kernel
theorem dX8_init_265 : decode cX8_init 265 = .ok (.istore 4, 2) := by decide +kernel
theorem dX8_init_267 : decode cX8_init 267 = .ok (.iload 4, 2) := by decide +kernel
theorem dX8_init_269 : decode cX8_init 269 = .ok (.aload_n 0, 1) := by decide +kernel
theorem dX8_init_270 : decode cX8_init 270 = .ok (.getfield 101, 3) := by decide +kernel
theorem dX8_init_273 : decode cX8_init 273 = .ok (.if_icmp .ge 22, 3) := by decide +kernel
theorem dX8_init_276 : decode cX8_init 276 = .ok (.aload_n 0, 1) := by decide +kernel
theorem dX8_init_277 : decode cX8_init 277 = .ok (.getfield 7, 3) := by decide +kernel
theorem dX8_init_280 : decode cX8_init 280 = .ok (.iload 4, 2) := by decide +kernel
theorem dX8_init_282 : decode cX8_init 282 = .ok (.aload_n 0, 1) := by decide +kernel
theorem dX8_init_283 : decode cX8_init 283 = .ok (.iload 4, 2) := by decide +kernel
theorem dX8_init_285 : decode cX8_init 285 = .ok (.invokevirtual 104, 3) := by decide +kernel
theorem dX8_init_288 : decode cX8_init 288 = .ok (.iastore, 1) := by decide +kernel
theorem dX8_init_289 : decode cX8_init 289 = .ok (.iinc 4 1, 3) := by decide +kernel
theorem dX8_init_292 : decode cX8_init 292 = .ok (.goto (-25), 3) := by decide +kernel
theorem dX8_init_295 : decode cX8_init 295 = .ok (.return_, 1) := by decide +kernel
theorem dX8_thrown_0 : decode cX8_thrown 0 = .ok (.aload_n 0, 1) := by decide +kernel
theorem dX8_thrown_1 : decode cX8_thrown 1 = .ok (.getfield 108, 3) := by decide +kernel
theorem dX8_thrown_4 : decode cX8_thrown 4 = .ok (.ireturn, 1) := by decide +kernel
theorem dX8_in_0 : decode cX8_in 0 = .ok (.lload_n 0, 1) := by decide +kernel
theorem dX8_in_1 : decode cX8_in 1 = .ok (.lload_n 2, 1) := by decide +kernel
theorem dX8_in_2 : decode cX8_in 2 = .ok (.lcmp, 1) := by decide +kernel
theorem dX8_in_3 : decode cX8_in 3 = .ok (.ifCond .lt 14, 3) := by decide +kernel
theorem dX8_in_6 : decode cX8_in 6 = .ok (.lload_n 0, 1) := by decide +kernel
theorem dX8_in_7 : decode cX8_in 7 = .ok (.lload 4, 2) := by decide +kernel
theorem dX8_in_9 : decode cX8_in 9 = .ok (.lcmp, 1) := by decide +kernel
theorem dX8_in_10 : decode cX8_in 10 = .ok (.ifCond .gt 7, 3) := by decide +kernel
theorem dX8_in_13 : decode cX8_in 13 = .ok (.iconst 1, 1) := by decide +kernel
theorem dX8_in_14 : decode cX8_in 14 = .ok (.goto 4, 3) := by decide +kernel
theorem dX8_in_17 : decode cX8_in 17 = .ok (.iconst 0, 1) := by decide +kernel
theorem dX8_in_18 : decode cX8_in 18 = .ok (.ireturn, 1) := by decide +kernel
theorem dX8_original_0 : decode cX8_original 0 = .ok (.iload_n 1, 1) := by decide +kernel
theorem dX8_original_1 : decode cX8_original 1 = .ok (.aload_n 0, 1) := by decide +kernel
theorem dX8_original_2 : decode cX8_original 2 = .ok (.getfield 98, 3) := by decide +kernel
theorem dX8_original_5 : decode cX8_original 5 = .ok (.if_icmp .ge 31, 3) := by decide +kernel
theorem dX8_original_8 : decode cX8_original 8 = .ok (.bipush 37, 2) := by decide +kernel
theorem dX8_original_10 : decode cX8_original 10 = .ok (.iload_n 1, 1) := by decide +kernel
theorem dX8_original_11 : decode cX8_original 11 = .ok (.imul, 1) := by decide +kernel
theorem dX8_original_12 : decode cX8_original 12 = .ok (.aload_n 0, 1) := by decide +kernel
theorem dX8_original_13 : decode cX8_original 13 = .ok (.getfield 79, 3) := by decide +kernel
theorem dX8_original_16 : decode cX8_original 16 = .ok (.iload_n 1, 1) := by decide +kernel
theorem dX8_original_17 : decode cX8_original 17 = .ok (.bipush 16, 2) := by decide +kernel
theorem dX8_original_19 : decode cX8_original 19 = .ok (.idiv, 1) := by decide +kernel
theorem dX8_original_20 : decode cX8_original 20 = .ok (.iconst 1, 1) := by decide +kernel
theorem dX8_original_21 : decode cX8_original 21 = .ok (.iadd, 1) := by decide +kernel
theorem dX8_original_22 : decode cX8_original 22 = .ok (.imul, 1) := by decide +kernel
theorem dX8_original_23 : decode cX8_original 23 = .ok (.iadd, 1) := by decide +kernel
theorem dX8_original_24 : decode cX8_original 24 = .ok (.iload_n 1, 1) := by decide +kernel
theorem dX8_original_25 : decode cX8_original 25 = .ok (.bipush 7, 2) := by decide +kernel
theorem dX8_original_27 : decode cX8_original 27 = .ok (.idiv, 1) := by decide +kernel
theorem dX8_original_28 : decode cX8_original 28 = .ok (.iadd, 1) := by decide +kernel
theorem dX8_original_29 : decode cX8_original 29 = .ok (.sipush 255, 3) := by decide +kernel
theorem dX8_original_32 : decode cX8_original 32 = .ok (.iand, 1) := by decide +kernel
theorem dX8_original_33 : decode cX8_original 33 = .ok (.goto 4, 3) := by decide +kernel
theorem dX8_original_36 : decode cX8_original 36 = .ok (.iconst 0, 1) := by decide +kernel
theorem dX8_original_37 : decode cX8_original 37 = .ok (.ireturn, 1) := by decide +kernel
theorem dX8_isSize_0 : decode cX8_isSize 0 = .ok (.iload_n 1, 1) := by decide +kernel
theorem dX8_isSize_1 : decode cX8_isSize 1 = .ok (.i2l, 1) := by decide +kernel
theorem dX8_isSize_2 : decode cX8_isSize 2 = .ok (.aload_n 0, 1) := by decide +kernel
theorem dX8_isSize_3 : decode cX8_isSize 3 = .ok (.getfield 98, 3) := by decide +kernel
theorem dX8_isSize_6 : decode cX8_isSize 6 = .ok (.i2l, 1) := by decide +kernel
theorem dX8_isSize_7 : decode cX8_isSize 7 = .ok (.ldc2_w 111, 3) := by decide +kernel
theorem dX8_isSize_10 : decode cX8_isSize 10 = .ok (.invokestatic 87, 3) := by decide +kernel
theorem dX8_isSize_13 : decode cX8_isSize 13 = .ok (.ifCond .eq 14, 3) := by decide +kernel
theorem dX8_isSize_16 : decode cX8_isSize 16 = .ok (.iload_n 1, 1) := by decide +kernel
theorem dX8_isSize_17 : decode cX8_isSize 17 = .ok (.bipush 32, 2) := by decide +kernel
theorem dX8_isSize_19 : decode cX8_isSize 19 = .ok (.irem, 1) := by decide +kernel
theorem dX8_isSize_20 : decode cX8_isSize 20 = .ok (.ifCond .ne 7, 3) := by decide +kernel
theorem dX8_isSize_23 : decode cX8_isSize 23 = .ok (.iconst 1, 1) := by decide +kernel
theorem dX8_isSize_24 : decode cX8_isSize 24 = .ok (.goto 4, 3) := by decide +kernel
theorem dX8_isSize_27 : decode cX8_isSize 27 = .ok (.iconst 0, 1) := by decide +kernel
theorem dX8_isSize_28 : decode cX8_isSize 28 = .ok (.ireturn, 1) := by decide +kernel
theorem dX8_peek_0 : decode cX8_peek 0 = .ok (.aload_n 0, 1) := by decide +kernel
theorem dX8_peek_1 : decode cX8_peek 1 = .ok (.iconst 0, 1) := by decide +kernel
theorem dX8_peek_2 : decode cX8_peek 2 = .ok (.putfield 108, 3) := by decide +kernel
theorem dX8_peek_5 : decode cX8_peek 5 = .ok (.iload_n 1, 1) := by decide +kernel
theorem dX8_peek_6 : decode cX8_peek 6 = .ok (.i2l, 1) := by decide +kernel
theorem dX8_peek_7 : decode cX8_peek 7 = .ok (.lconst 0, 1) := by decide +kernel
theorem dX8_peek_8 : decode cX8_peek 8 = .ok (.aload_n 0, 1) := by decide +kernel
theorem dX8_peek_9 : decode cX8_peek 9 = .ok (.getfield 101, 3) := by decide +kernel
theorem dX8_peek_12 : decode cX8_peek 12 = .ok (.iconst 1, 1) := by decide +kernel
theorem dX8_peek_13 : decode cX8_peek 13 = .ok (.isub, 1) := by decide +kernel
theorem dX8_peek_14 : decode cX8_peek 14 = .ok (.i2l, 1) := by decide +kernel
theorem dX8_peek_15 : decode cX8_peek 15 = .ok (.invokestatic 87, 3) := by decide +kernel
theorem dX8_peek_18 : decode cX8_peek 18 = .ok (.ifCond .eq 12, 3) := by decide +kernel
theorem dX8_peek_21 : decode cX8_peek 21 = .ok (.aload_n 0, 1) := by decide +kernel
theorem dX8_peek_22 : decode cX8_peek 22 = .ok (.getfield 7, 3) := by decide +kernel
theorem dX8_peek_25 : decode cX8_peek 25 = .ok (.iload_n 1, 1) := by decide +kernel
theorem dX8_peek_26 : decode cX8_peek 26 = .ok (.iaload, 1) := by decide +kernel
theorem dX8_peek_27 : decode cX8_peek 27 = .ok (.goto 4, 3) := by decide +kernel
theorem dX8_peek_30 : decode cX8_peek 30 = .ok (.iconst (-1), 1) := by decide +kernel
theorem dX8_peek_31 : decode cX8_peek 31 = .ok (.ireturn, 1) := by decide +kernel
theorem dX8_poke_0 : decode cX8_poke 0 = .ok (.aload_n 0, 1) := by decide +kernel
theorem dX8_poke_1 : decode cX8_poke 1 = .ok (.iconst 0, 1) := by decide +kernel
theorem dX8_poke_2 : decode cX8_poke 2 = .ok (.putfield 108, 3) := by decide +kernel
theorem dX8_poke_5 : decode cX8_poke 5 = .ok (.iload_n 1, 1) := by decide +kernel
theorem dX8_poke_6 : decode cX8_poke 6 = .ok (.i2l, 1) := by decide +kernel
theorem dX8_poke_7 : decode cX8_poke 7 = .ok (.aload_n 0, 1) := by decide +kernel
theorem dX8_poke_8 : decode cX8_poke 8 = .ok (.getfield 91, 3) := by decide +kernel
theorem dX8_poke_11 : decode cX8_poke 11 = .ok (.i2l, 1) := by decide +kernel
theorem dX8_poke_12 : decode cX8_poke 12 = .ok (.aload_n 0, 1) := by decide +kernel
theorem dX8_poke_13 : decode cX8_poke 13 = .ok (.getfield 101, 3) := by decide +kernel
theorem dX8_poke_16 : decode cX8_poke 16 = .ok (.iconst 1, 1) := by decide +kernel
theorem dX8_poke_17 : decode cX8_poke 17 = .ok (.isub, 1) := by decide +kernel
theorem dX8_poke_18 : decode cX8_poke 18 = .ok (.i2l, 1) := by decide +kernel
theorem dX8_poke_19 : decode cX8_poke 19 = .ok (.invokestatic 87, 3) := by decide +kernel
theorem dX8_poke_22 : decode cX8_poke 22 = .ok (.ifCond .ne 5, 3) := by decide +kernel
theorem dX8_poke_25 : decode cX8_poke 25 = .ok (.iconst (-1), 1) := by decide +kernel
theorem dX8_poke_26 : decode cX8_poke 26 = .ok (.ireturn, 1) := by decide +kernel
theorem dX8_poke_27 : decode cX8_poke 27 = .ok (.iload_n 2, 1) := by decide +kernel
theorem dX8_poke_28 : decode cX8_poke 28 = .ok (.i2l, 1) := by decide +kernel
theorem dX8_poke_29 : decode cX8_poke 29 = .ok (.lconst 0, 1) := by decide +kernel
theorem dX8_poke_30 : decode cX8_poke 30 = .ok (.ldc2_w 113, 3) := by decide +kernel
theorem dX8_poke_33 : decode cX8_poke 33 = .ok (.invokestatic 87, 3) := by decide +kernel
theorem dX8_poke_36 : decode cX8_poke 36 = .ok (.ifCond .ne 6, 3) := by decide +kernel
theorem dX8_poke_39 : decode cX8_poke 39 = .ok (.bipush (-2), 2) := by decide +kernel
theorem dX8_poke_41 : decode cX8_poke 41 = .ok (.ireturn, 1) := by decide +kernel
theorem dX8_poke_42 : decode cX8_poke 42 = .ok (.aload_n 0, 1) := by decide +kernel
theorem dX8_poke_43 : decode cX8_poke 43 = .ok (.getfield 7, 3) := by decide +kernel
theorem dX8_poke_46 : decode cX8_poke 46 = .ok (.iload_n 1, 1) := by decide +kernel
theorem dX8_poke_47 : decode cX8_poke 47 = .ok (.iaload, 1) := by decide +kernel
theorem dX8_poke_48 : decode cX8_poke 48 = .ok (.istore_n 3, 1) := by decide +kernel
theorem dX8_poke_49 : decode cX8_poke 49 = .ok (.aload_n 0, 1) := by decide +kernel
theorem dX8_poke_50 : decode cX8_poke 50 = .ok (.getfield 7, 3) := by decide +kernel
theorem dX8_poke_53 : decode cX8_poke 53 = .ok (.iload_n 1, 1) := by decide +kernel
theorem dX8_poke_54 : decode cX8_poke 54 = .ok (.iload_n 2, 1) := by decide +kernel
theorem dX8_poke_55 : decode cX8_poke 55 = .ok (.iastore, 1) := by decide +kernel
theorem dX8_poke_56 : decode cX8_poke 56 = .ok (.iload_n 3, 1) := by decide +kernel
theorem dX8_poke_57 : decode cX8_poke 57 = .ok (.ireturn, 1) := by decide +kernel
theorem dX8_resize_0 : decode cX8_resize 0 = .ok (.aload_n 0, 1) := by decide +kernel
theorem dX8_resize_1 : decode cX8_resize 1 = .ok (.iconst 0, 1) := by decide +kernel
theorem dX8_resize_2 : decode cX8_resize 2 = .ok (.putfield 108, 3) := by decide +kernel
theorem dX8_resize_5 : decode cX8_resize 5 = .ok (.aload_n 0, 1) := by decide +kernel
theorem dX8_resize_6 : decode cX8_resize 6 = .ok (.iload_n 1, 1) := by decide +kernel
theorem dX8_resize_7 : decode cX8_resize 7 = .ok (.invokevirtual 115, 3) := by decide +kernel
theorem dX8_resize_10 : decode cX8_resize 10 = .ok (.ifCond .ne 6, 3) := by decide +kernel
theorem dX8_resize_13 : decode cX8_resize 13 = .ok (.bipush (-2), 2) := by decide +kernel
theorem dX8_resize_15 : decode cX8_resize 15 = .ok (.ireturn, 1) := by decide +kernel
theorem dX8_resize_16 : decode cX8_resize 16 = .ok (.iconst 0, 1) := by decide +kernel
theorem dX8_resize_17 : decode cX8_resize 17 = .ok (.istore_n 2, 1) := by decide +kernel
theorem dX8_resize_18 : decode cX8_resize 18 = .ok (.iload_n 2, 1) := by decide +kernel
theorem dX8_resize_19 : decode cX8_resize 19 = .ok (.aload_n 0, 1) := by decide +kernel
theorem dX8_resize_20 : decode cX8_resize 20 = .ok (.getfield 119, 3) := by decide +kernel
theorem dX8_resize_23 : decode cX8_resize 23 = .ok (.if_icmp .ge 29, 3) := by decide +kernel
theorem dX8_resize_26 : decode cX8_resize 26 = .ok (.aload_n 0, 1) := by decide +kernel
theorem dX8_resize_27 : decode cX8_resize 27 = .ok (.getfield 16, 3) := by decide +kernel
theorem dX8_resize_30 : decode cX8_resize 30 = .ok (.iload_n 2, 1) := by decide +kernel
theorem dX8_resize_31 : decode cX8_resize 31 = .ok (.iaload, 1) := by decide +kernel
theorem dX8_resize_32 : decode cX8_resize 32 = .ok (.aload_n 0, 1) := by decide +kernel
theorem dX8_resize_33 : decode cX8_resize 33 = .ok (.getfield 19, 3) := by decide +kernel
theorem dX8_resize_36 : decode cX8_resize 36 = .ok (.iload_n 2, 1) := by decide +kernel
theorem dX8_resize_37 : decode cX8_resize 37 = .ok (.iaload, 1) := by decide +kernel
theorem dX8_resize_38 : decode cX8_resize 38 = .ok (.iadd, 1) := by decide +kernel
theorem dX8_resize_39 : decode cX8_resize 39 = .ok (.iload_n 1, 1) := by decide +kernel
theorem dX8_resize_40 : decode cX8_resize 40 = .ok (.if_icmp .le 6, 3) := by decide +kernel
theorem dX8_resize_43 : decode cX8_resize 43 = .ok (.bipush (-3), 2) := by decide +kernel
theorem dX8_resize_45 : decode cX8_resize 45 = .ok (.ireturn, 1) := by decide +kernel
theorem dX8_resize_46 : decode cX8_resize 46 = .ok (.iinc 2 1, 3) := by decide +kernel
theorem dX8_resize_49 : decode cX8_resize 49 = .ok (.goto (-31), 3) := by decide +kernel
theorem dX8_resize_52 : decode cX8_resize 52 = .ok (.aload_n 0, 1) := by decide +kernel
theorem dX8_resize_53 : decode cX8_resize 53 = .ok (.getfield 101, 3) := by decide +kernel
theorem dX8_resize_56 : decode cX8_resize 56 = .ok (.istore_n 2, 1) := by decide +kernel
theorem dX8_resize_57 : decode cX8_resize 57 = .ok (.iload_n 2, 1) := by decide +kernel
theorem dX8_resize_58 : decode cX8_resize 58 = .ok (.istore_n 3, 1) := by decide +kernel
theorem dX8_resize_59 : decode cX8_resize 59 = .ok (.iload_n 3, 1) := by decide +kernel
theorem dX8_resize_60 : decode cX8_resize 60 = .ok (.iload_n 1, 1) := by decide +kernel
theorem dX8_resize_61 : decode cX8_resize 61 = .ok (.if_icmp .ge 16, 3) := by decide +kernel
theorem dX8_resize_64 : decode cX8_resize 64 = .ok (.aload_n 0, 1) := by decide +kernel
theorem dX8_resize_65 : decode cX8_resize 65 = .ok (.getfield 7, 3) := by decide +kernel
theorem dX8_resize_68 : decode cX8_resize 68 = .ok (.iload_n 3, 1) := by decide +kernel
theorem dX8_resize_69 : decode cX8_resize 69 = .ok (.iconst 0, 1) := by decide +kernel
theorem dX8_resize_70 : decode cX8_resize 70 = .ok (.iastore, 1) := by decide +kernel
theorem dX8_resize_71 : decode cX8_resize 71 = .ok (.iinc 3 1, 3) := by decide +kernel
theorem dX8_resize_74 : decode cX8_resize 74 = .ok (.goto (-15), 3) := by decide +kernel
theorem dX8_resize_77 : decode cX8_resize 77 = .ok (.aload_n 0, 1) := by decide +kernel
theorem dX8_resize_78 : decode cX8_resize 78 = .ok (.iload_n 1, 1) := by decide +kernel
theorem dX8_resize_79 : decode cX8_resize 79 = .ok (.putfield 101, 3) := by decide +kernel
theorem dX8_resize_82 : decode cX8_resize 82 = .ok (.iload_n 2, 1) := by decide +kernel
theorem dX8_resize_83 : decode cX8_resize 83 = .ok (.ireturn, 1) := by decide +kernel
theorem dX8_push_0 : decode cX8_push 0 = .ok (.aload_n 0, 1) := by decide +kernel
theorem dX8_push_1 : decode cX8_push 1 = .ok (.iconst 0, 1) := by decide +kernel
theorem dX8_push_2 : decode cX8_push 2 = .ok (.putfield 108, 3) := by decide +kernel
theorem dX8_push_5 : decode cX8_push 5 = .ok (.aload_n 0, 1) := by decide +kernel
theorem dX8_push_6 : decode cX8_push 6 = .ok (.getfield 122, 3) := by decide +kernel
theorem dX8_push_9 : decode cX8_push 9 = .ok (.bipush 40, 2) := by decide +kernel
theorem dX8_push_11 : decode cX8_push 11 = .ok (.if_icmp .ne 6, 3) := by decide +kernel
theorem dX8_push_14 : decode cX8_push 14 = .ok (.bipush (-4), 2) := by decide +kernel
theorem dX8_push_16 : decode cX8_push 16 = .ok (.ireturn, 1) := by decide +kernel
theorem dX8_push_17 : decode cX8_push 17 = .ok (.aload_n 0, 1) := by decide +kernel
theorem dX8_push_18 : decode cX8_push 18 = .ok (.getfield 13, 3) := by decide +kernel
theorem dX8_push_21 : decode cX8_push 21 = .ok (.aload_n 0, 1) := by decide +kernel
theorem dX8_push_22 : decode cX8_push 22 = .ok (.getfield 122, 3) := by decide +kernel
theorem dX8_push_25 : decode cX8_push 25 = .ok (.iload_n 1, 1) := by decide +kernel
theorem dX8_push_26 : decode cX8_push 26 = .ok (.iastore, 1) := by decide +kernel
theorem dX8_push_27 : decode cX8_push 27 = .ok (.aload_n 0, 1) := by decide +kernel
theorem dX8_push_28 : decode cX8_push 28 = .ok (.dup, 1) := by decide +kernel
theorem dX8_push_29 : decode cX8_push 29 = .ok (.getfield 122, 3) := by decide +kernel
theorem dX8_push_32 : decode cX8_push 32 = .ok (.iconst 1, 1) := by decide +kernel
theorem dX8_push_33 : decode cX8_push 33 = .ok (.iadd, 1) := by decide +kernel
theorem dX8_push_34 : decode cX8_push 34 = .ok (.putfield 122, 3) := by decide +kernel
theorem dX8_push_37 : decode cX8_push 37 = .ok (.aload_n 0, 1) := by decide +kernel
theorem dX8_push_38 : decode cX8_push 38 = .ok (.getfield 122, 3) := by decide +kernel
theorem dX8_push_41 : decode cX8_push 41 = .ok (.ireturn, 1) := by decide +kernel
theorem dX8_pop_0 : decode cX8_pop 0 = .ok (.aload_n 0, 1) := by decide +kernel
theorem dX8_pop_1 : decode cX8_pop 1 = .ok (.iconst 0, 1) := by decide +kernel
theorem dX8_pop_2 : decode cX8_pop 2 = .ok (.putfield 108, 3) := by decide +kernel
theorem dX8_pop_5 : decode cX8_pop 5 = .ok (.aload_n 0, 1) := by decide +kernel
theorem dX8_pop_6 : decode cX8_pop 6 = .ok (.getfield 122, 3) := by decide +kernel
theorem dX8_pop_9 : decode cX8_pop 9 = .ok (.ifCond .ne 10, 3) := by decide +kernel
theorem dX8_pop_12 : decode cX8_pop 12 = .ok (.aload_n 0, 1) := by decide +kernel
theorem dX8_pop_13 : decode cX8_pop 13 = .ok (.iconst 1, 1) := by decide +kernel
theorem dX8_pop_14 : decode cX8_pop 14 = .ok (.putfield 108, 3) := by decide +kernel
theorem dX8_pop_17 : decode cX8_pop 17 = .ok (.iconst 0, 1) := by decide +kernel
theorem dX8_pop_18 : decode cX8_pop 18 = .ok (.ireturn, 1) := by decide +kernel
theorem dX8_pop_19 : decode cX8_pop 19 = .ok (.aload_n 0, 1) := by decide +kernel
theorem dX8_pop_20 : decode cX8_pop 20 = .ok (.dup, 1) := by decide +kernel
theorem dX8_pop_21 : decode cX8_pop 21 = .ok (.getfield 122, 3) := by decide +kernel
theorem dX8_pop_24 : decode cX8_pop 24 = .ok (.iconst 1, 1) := by decide +kernel
theorem dX8_pop_25 : decode cX8_pop 25 = .ok (.isub, 1) := by decide +kernel
theorem dX8_pop_26 : decode cX8_pop 26 = .ok (.putfield 122, 3) := by decide +kernel
theorem dX8_pop_29 : decode cX8_pop 29 = .ok (.aload_n 0, 1) := by decide +kernel
theorem dX8_pop_30 : decode cX8_pop 30 = .ok (.getfield 13, 3) := by decide +kernel
theorem dX8_pop_33 : decode cX8_pop 33 = .ok (.aload_n 0, 1) := by decide +kernel
theorem dX8_pop_34 : decode cX8_pop 34 = .ok (.getfield 122, 3) := by decide +kernel
theorem dX8_pop_37 : decode cX8_pop 37 = .ok (.iaload, 1) := by decide +kernel
theorem dX8_pop_38 : decode cX8_pop 38 = .ok (.ireturn, 1) := by decide +kernel
theorem dX8_block_0 : decode cX8_block 0 = .ok (.aload_n 0, 1) := by decide +kernel
theorem dX8_block_1 : decode cX8_block 1 = .ok (.iconst 0, 1) := by decide +kernel
theorem dX8_block_2 : decode cX8_block 2 = .ok (.putfield 108, 3) := by decide +kernel
theorem dX8_block_5 : decode cX8_block 5 = .ok (.iload_n 2, 1) := by decide +kernel
theorem dX8_block_6 : decode cX8_block 6 = .ok (.i2l, 1) := by decide +kernel
theorem dX8_block_7 : decode cX8_block 7 = .ok (.lconst 1, 1) := by decide +kernel
theorem dX8_block_8 : decode cX8_block 8 = .ok (.ldc2_w 125, 3) := by decide +kernel
theorem dX8_block_11 : decode cX8_block 11 = .ok (.invokestatic 87, 3) := by decide +kernel
theorem dX8_block_14 : decode cX8_block 14 = .ok (.ifCond .ne 6, 3) := by decide +kernel
theorem dX8_block_17 : decode cX8_block 17 = .ok (.bipush (-2), 2) := by decide +kernel
theorem dX8_block_19 : decode cX8_block 19 = .ok (.ireturn, 1) := by decide +kernel
theorem dX8_block_20 : decode cX8_block 20 = .ok (.iload_n 1, 1) := by decide +kernel
theorem dX8_block_21 : decode cX8_block 21 = .ok (.i2l, 1) := by decide +kernel
theorem dX8_block_22 : decode cX8_block 22 = .ok (.aload_n 0, 1) := by decide +kernel
theorem dX8_block_23 : decode cX8_block 23 = .ok (.getfield 98, 3) := by decide +kernel
theorem dX8_block_26 : decode cX8_block 26 = .ok (.i2l, 1) := by decide +kernel
theorem dX8_block_27 : decode cX8_block 27 = .ok (.aload_n 0, 1) := by decide +kernel
theorem dX8_block_28 : decode cX8_block 28 = .ok (.getfield 101, 3) := by decide +kernel
theorem dX8_block_31 : decode cX8_block 31 = .ok (.iload_n 2, 1) := by decide +kernel
theorem dX8_block_32 : decode cX8_block 32 = .ok (.isub, 1) := by decide +kernel
theorem dX8_block_33 : decode cX8_block 33 = .ok (.i2l, 1) := by decide +kernel
theorem dX8_block_34 : decode cX8_block 34 = .ok (.invokestatic 87, 3) := by decide +kernel
theorem dX8_block_37 : decode cX8_block 37 = .ok (.ifCond .ne 6, 3) := by decide +kernel
theorem dX8_block_40 : decode cX8_block 40 = .ok (.bipush (-3), 2) := by decide +kernel
theorem dX8_block_42 : decode cX8_block 42 = .ok (.ireturn, 1) := by decide +kernel
theorem dX8_block_43 : decode cX8_block 43 = .ok (.iconst 0, 1) := by decide +kernel
theorem dX8_block_44 : decode cX8_block 44 = .ok (.istore_n 3, 1) := by decide +kernel
theorem dX8_block_45 : decode cX8_block 45 = .ok (.iconst 0, 1) := by decide +kernel
theorem dX8_block_46 : decode cX8_block 46 = .ok (.istore 4, 2) := by decide +kernel
theorem dX8_block_48 : decode cX8_block 48 = .ok (.iload 4, 2) := by decide +kernel
theorem dX8_block_50 : decode cX8_block 50 = .ok (.aload_n 0, 1) := by decide +kernel
theorem dX8_block_51 : decode cX8_block 51 = .ok (.getfield 119, 3) := by decide +kernel
theorem dX8_block_54 : decode cX8_block 54 = .ok (.if_icmp .ge 63, 3) := by decide +kernel
theorem dX8_block_57 : decode cX8_block 57 = .ok (.iload_n 1, 1) := by decide +kernel
theorem dX8_block_58 : decode cX8_block 58 = .ok (.aload_n 0, 1) := by decide +kernel
theorem dX8_block_59 : decode cX8_block 59 = .ok (.getfield 16, 3) := by decide +kernel
theorem dX8_block_62 : decode cX8_block 62 = .ok (.iload 4, 2) := by decide +kernel
theorem dX8_block_64 : decode cX8_block 64 = .ok (.iaload, 1) := by decide +kernel
theorem dX8_block_65 : decode cX8_block 65 = .ok (.aload_n 0, 1) := by decide +kernel
theorem dX8_block_66 : decode cX8_block 66 = .ok (.getfield 19, 3) := by decide +kernel
theorem dX8_block_69 : decode cX8_block 69 = .ok (.iload 4, 2) := by decide +kernel
theorem dX8_block_71 : decode cX8_block 71 = .ok (.iaload, 1) := by decide +kernel
theorem dX8_block_72 : decode cX8_block 72 = .ok (.iadd, 1) := by decide +kernel
theorem dX8_block_73 : decode cX8_block 73 = .ok (.if_icmp .ge 19, 3) := by decide +kernel
theorem dX8_block_76 : decode cX8_block 76 = .ok (.aload_n 0, 1) := by decide +kernel
theorem dX8_block_77 : decode cX8_block 77 = .ok (.getfield 16, 3) := by decide +kernel
theorem dX8_block_80 : decode cX8_block 80 = .ok (.iload 4, 2) := by decide +kernel
theorem dX8_block_82 : decode cX8_block 82 = .ok (.iaload, 1) := by decide +kernel
theorem dX8_block_83 : decode cX8_block 83 = .ok (.iload_n 1, 1) := by decide +kernel
theorem dX8_block_84 : decode cX8_block 84 = .ok (.iload_n 2, 1) := by decide +kernel
theorem dX8_block_85 : decode cX8_block 85 = .ok (.iadd, 1) := by decide +kernel
theorem dX8_block_86 : decode cX8_block 86 = .ok (.if_icmp .ge 6, 3) := by decide +kernel
theorem dX8_block_89 : decode cX8_block 89 = .ok (.bipush (-3), 2) := by decide +kernel
theorem dX8_block_91 : decode cX8_block 91 = .ok (.ireturn, 1) := by decide +kernel
theorem dX8_block_92 : decode cX8_block 92 = .ok (.iload_n 3, 1) := by decide +kernel
theorem dX8_block_93 : decode cX8_block 93 = .ok (.aload_n 0, 1) := by decide +kernel
theorem dX8_block_94 : decode cX8_block 94 = .ok (.getfield 16, 3) := by decide +kernel
theorem dX8_block_97 : decode cX8_block 97 = .ok (.iload 4, 2) := by decide +kernel
theorem dX8_block_99 : decode cX8_block 99 = .ok (.iaload, 1) := by decide +kernel
theorem dX8_block_100 : decode cX8_block 100 = .ok (.iload_n 1, 1) := by decide +kernel
theorem dX8_block_101 : decode cX8_block 101 = .ok (.if_icmp .ge 7, 3) := by decide +kernel
theorem dX8_block_104 : decode cX8_block 104 = .ok (.iconst 1, 1) := by decide +kernel
theorem dX8_block_105 : decode cX8_block 105 = .ok (.goto 4, 3) := by decide +kernel
theorem dX8_block_108 : decode cX8_block 108 = .ok (.iconst 0, 1) := by decide +kernel
theorem dX8_block_109 : decode cX8_block 109 = .ok (.iadd, 1) := by decide +kernel
theorem dX8_block_110 : decode cX8_block 110 = .ok (.istore_n 3, 1) := by decide +kernel
theorem dX8_block_111 : decode cX8_block 111 = .ok (.iinc 4 1, 3) := by decide +kernel
theorem dX8_block_114 : decode cX8_block 114 = .ok (.goto (-66), 3) := by decide +kernel
theorem dX8_block_117 : decode cX8_block 117 = .ok (.aload_n 0, 1) := by decide +kernel
theorem dX8_block_118 : decode cX8_block 118 = .ok (.getfield 119, 3) := by decide +kernel
theorem dX8_block_121 : decode cX8_block 121 = .ok (.bipush 8, 2) := by decide +kernel
theorem dX8_block_123 : decode cX8_block 123 = .ok (.if_icmp .ne 6, 3) := by decide +kernel
theorem dX8_block_126 : decode cX8_block 126 = .ok (.bipush (-4), 2) := by decide +kernel
theorem dX8_block_128 : decode cX8_block 128 = .ok (.ireturn, 1) := by decide +kernel
theorem dX8_block_129 : decode cX8_block 129 = .ok (.aload_n 0, 1) := by decide +kernel
theorem dX8_block_130 : decode cX8_block 130 = .ok (.getfield 119, 3) := by decide +kernel
theorem dX8_block_133 : decode cX8_block 133 = .ok (.istore 4, 2) := by decide +kernel
theorem dX8_block_135 : decode cX8_block 135 = .ok (.iload 4, 2) := by decide +kernel
theorem dX8_block_137 : decode cX8_block 137 = .ok (.iload_n 3, 1) := by decide +kernel
theorem dX8_block_138 : decode cX8_block 138 = .ok (.if_icmp .le 41, 3) := by decide +kernel
theorem dX8_block_141 : decode cX8_block 141 = .ok (.aload_n 0, 1) := by decide +kernel
theorem dX8_block_142 : decode cX8_block 142 = .ok (.getfield 16, 3) := by decide +kernel
theorem dX8_block_145 : decode cX8_block 145 = .ok (.iload 4, 2) := by decide +kernel
theorem dX8_block_147 : decode cX8_block 147 = .ok (.aload_n 0, 1) := by decide +kernel
theorem dX8_block_148 : decode cX8_block 148 = .ok (.getfield 16, 3) := by decide +kernel
theorem dX8_block_151 : decode cX8_block 151 = .ok (.iload 4, 2) := by decide +kernel
theorem dX8_block_153 : decode cX8_block 153 = .ok (.iconst 1, 1) := by decide +kernel
theorem dX8_block_154 : decode cX8_block 154 = .ok (.isub, 1) := by decide +kernel
theorem dX8_block_155 : decode cX8_block 155 = .ok (.iaload, 1) := by decide +kernel
theorem dX8_block_156 : decode cX8_block 156 = .ok (.iastore, 1) := by decide +kernel
theorem dX8_block_157 : decode cX8_block 157 = .ok (.aload_n 0, 1) := by decide +kernel
theorem dX8_block_158 : decode cX8_block 158 = .ok (.getfield 19, 3) := by decide +kernel
theorem dX8_block_161 : decode cX8_block 161 = .ok (.iload 4, 2) := by decide +kernel
theorem dX8_block_163 : decode cX8_block 163 = .ok (.aload_n 0, 1) := by decide +kernel
theorem dX8_block_164 : decode cX8_block 164 = .ok (.getfield 19, 3) := by decide +kernel
theorem dX8_block_167 : decode cX8_block 167 = .ok (.iload 4, 2) := by decide +kernel
theorem dX8_block_169 : decode cX8_block 169 = .ok (.iconst 1, 1) := by decide +kernel
theorem dX8_block_170 : decode cX8_block 170 = .ok (.isub, 1) := by decide +kernel
theorem dX8_block_171 : decode cX8_block 171 = .ok (.iaload, 1) := by decide +kernel
theorem dX8_block_172 : decode cX8_block 172 = .ok (.iastore, 1) := by decide +kernel
theorem dX8_block_173 : decode cX8_block 173 = .ok (.iinc 4 (-1), 3) := by decide +kernel
theorem dX8_block_176 : decode cX8_block 176 = .ok (.goto (-41), 3) := by decide +kernel
theorem dX8_block_179 : decode cX8_block 179 = .ok (.aload_n 0, 1) := by decide +kernel
theorem dX8_block_180 : decode cX8_block 180 = .ok (.getfield 16, 3) := by decide +kernel
theorem dX8_block_183 : decode cX8_block 183 = .ok (.iload_n 3, 1) := by decide +kernel
theorem dX8_block_184 : decode cX8_block 184 = .ok (.iload_n 1, 1) := by decide +kernel
theorem dX8_block_185 : decode cX8_block 185 = .ok (.iastore, 1) := by decide +kernel
theorem dX8_block_186 : decode cX8_block 186 = .ok (.aload_n 0, 1) := by decide +kernel
theorem dX8_block_187 : decode cX8_block 187 = .ok (.getfield 19, 3) := by decide +kernel
theorem dX8_block_190 : decode cX8_block 190 = .ok (.iload_n 3, 1) := by decide +kernel
theorem dX8_block_191 : decode cX8_block 191 = .ok (.iload_n 2, 1) := by decide +kernel
theorem dX8_block_192 : decode cX8_block 192 = .ok (.iastore, 1) := by decide +kernel
theorem dX8_block_193 : decode cX8_block 193 = .ok (.aload_n 0, 1) := by decide +kernel
theorem dX8_block_194 : decode cX8_block 194 = .ok (.dup, 1) := by decide +kernel
theorem dX8_block_195 : decode cX8_block 195 = .ok (.getfield 119, 3) := by decide +kernel
theorem dX8_block_198 : decode cX8_block 198 = .ok (.iconst 1, 1) := by decide +kernel
theorem dX8_block_199 : decode cX8_block 199 = .ok (.iadd, 1) := by decide +kernel
theorem dX8_block_200 : decode cX8_block 200 = .ok (.putfield 119, 3) := by decide +kernel
theorem dX8_block_203 : decode cX8_block 203 = .ok (.aload_n 0, 1) := by decide +kernel
theorem dX8_block_204 : decode cX8_block 204 = .ok (.getfield 119, 3) := by decide +kernel
theorem dX8_block_207 : decode cX8_block 207 = .ok (.ireturn, 1) := by decide +kernel
theorem dX8_free_0 : decode cX8_free 0 = .ok (.aload_n 0, 1) := by decide +kernel
theorem dX8_free_1 : decode cX8_free 1 = .ok (.iconst 0, 1) := by decide +kernel
theorem dX8_free_2 : decode cX8_free 2 = .ok (.putfield 108, 3) := by decide +kernel
theorem dX8_free_5 : decode cX8_free 5 = .ok (.iconst 0, 1) := by decide +kernel
theorem dX8_free_6 : decode cX8_free 6 = .ok (.istore_n 2, 1) := by decide +kernel
theorem dX8_free_7 : decode cX8_free 7 = .ok (.iload_n 2, 1) := by decide +kernel
theorem dX8_free_8 : decode cX8_free 8 = .ok (.aload_n 0, 1) := by decide +kernel
theorem dX8_free_9 : decode cX8_free 9 = .ok (.getfield 119, 3) := by decide +kernel
theorem dX8_free_12 : decode cX8_free 12 = .ok (.if_icmp .ge 88, 3) := by decide +kernel
theorem dX8_free_15 : decode cX8_free 15 = .ok (.aload_n 0, 1) := by decide +kernel
theorem dX8_free_16 : decode cX8_free 16 = .ok (.getfield 16, 3) := by decide +kernel
theorem dX8_free_19 : decode cX8_free 19 = .ok (.iload_n 2, 1) := by decide +kernel
theorem dX8_free_20 : decode cX8_free 20 = .ok (.iaload, 1) := by decide +kernel
theorem dX8_free_21 : decode cX8_free 21 = .ok (.iload_n 1, 1) := by decide +kernel
theorem dX8_free_22 : decode cX8_free 22 = .ok (.if_icmp .ne 72, 3) := by decide +kernel
theorem dX8_free_25 : decode cX8_free 25 = .ok (.aload_n 0, 1) := by decide +kernel
theorem dX8_free_26 : decode cX8_free 26 = .ok (.getfield 19, 3) := by decide +kernel
theorem dX8_free_29 : decode cX8_free 29 = .ok (.iload_n 2, 1) := by decide +kernel
theorem dX8_free_30 : decode cX8_free 30 = .ok (.iaload, 1) := by decide +kernel
theorem dX8_free_31 : decode cX8_free 31 = .ok (.istore_n 3, 1) := by decide +kernel
theorem dX8_free_32 : decode cX8_free 32 = .ok (.aload_n 0, 1) := by decide +kernel
theorem dX8_free_33 : decode cX8_free 33 = .ok (.dup, 1) := by decide +kernel
theorem dX8_free_34 : decode cX8_free 34 = .ok (.getfield 119, 3) := by decide +kernel
theorem dX8_free_37 : decode cX8_free 37 = .ok (.iconst 1, 1) := by decide +kernel
theorem dX8_free_38 : decode cX8_free 38 = .ok (.isub, 1) := by decide +kernel
theorem dX8_free_39 : decode cX8_free 39 = .ok (.putfield 119, 3) := by decide +kernel
theorem dX8_free_42 : decode cX8_free 42 = .ok (.iload_n 2, 1) := by decide +kernel
theorem dX8_free_43 : decode cX8_free 43 = .ok (.istore 4, 2) := by decide +kernel
theorem dX8_free_45 : decode cX8_free 45 = .ok (.iload 4, 2) := by decide +kernel
theorem dX8_free_47 : decode cX8_free 47 = .ok (.aload_n 0, 1) := by decide +kernel
theorem dX8_free_48 : decode cX8_free 48 = .ok (.getfield 119, 3) := by decide +kernel
theorem dX8_free_51 : decode cX8_free 51 = .ok (.if_icmp .ge 41, 3) := by decide +kernel
theorem dX8_free_54 : decode cX8_free 54 = .ok (.aload_n 0, 1) := by decide +kernel
theorem dX8_free_55 : decode cX8_free 55 = .ok (.getfield 16, 3) := by decide +kernel
theorem dX8_free_58 : decode cX8_free 58 = .ok (.iload 4, 2) := by decide +kernel
theorem dX8_free_60 : decode cX8_free 60 = .ok (.aload_n 0, 1) := by decide +kernel
theorem dX8_free_61 : decode cX8_free 61 = .ok (.getfield 16, 3) := by decide +kernel
theorem dX8_free_64 : decode cX8_free 64 = .ok (.iload 4, 2) := by decide +kernel
theorem dX8_free_66 : decode cX8_free 66 = .ok (.iconst 1, 1) := by decide +kernel
theorem dX8_free_67 : decode cX8_free 67 = .ok (.iadd, 1) := by decide +kernel
theorem dX8_free_68 : decode cX8_free 68 = .ok (.iaload, 1) := by decide +kernel
theorem dX8_free_69 : decode cX8_free 69 = .ok (.iastore, 1) := by decide +kernel
theorem dX8_free_70 : decode cX8_free 70 = .ok (.aload_n 0, 1) := by decide +kernel
theorem dX8_free_71 : decode cX8_free 71 = .ok (.getfield 19, 3) := by decide +kernel
theorem dX8_free_74 : decode cX8_free 74 = .ok (.iload 4, 2) := by decide +kernel
theorem dX8_free_76 : decode cX8_free 76 = .ok (.aload_n 0, 1) := by decide +kernel
theorem dX8_free_77 : decode cX8_free 77 = .ok (.getfield 19, 3) := by decide +kernel
theorem dX8_free_80 : decode cX8_free 80 = .ok (.iload 4, 2) := by decide +kernel
theorem dX8_free_82 : decode cX8_free 82 = .ok (.iconst 1, 1) := by decide +kernel
theorem dX8_free_83 : decode cX8_free 83 = .ok (.iadd, 1) := by decide +kernel
theorem dX8_free_84 : decode cX8_free 84 = .ok (.iaload, 1) := by decide +kernel
theorem dX8_free_85 : decode cX8_free 85 = .ok (.iastore, 1) := by decide +kernel
theorem dX8_free_86 : decode cX8_free 86 = .ok (.iinc 4 1, 3) := by decide +kernel
theorem dX8_free_89 : decode cX8_free 89 = .ok (.goto (-44), 3) := by decide +kernel
theorem dX8_free_92 : decode cX8_free 92 = .ok (.iload_n 3, 1) := by decide +kernel
theorem dX8_free_93 : decode cX8_free 93 = .ok (.ireturn, 1) := by decide +kernel
theorem dX8_free_94 : decode cX8_free 94 = .ok (.iinc 2 1, 3) := by decide +kernel
theorem dX8_free_97 : decode cX8_free 97 = .ok (.goto (-90), 3) := by decide +kernel
theorem dX8_free_100 : decode cX8_free 100 = .ok (.iconst (-1), 1) := by decide +kernel
theorem dX8_free_101 : decode cX8_free 101 = .ok (.ireturn, 1) := by decide +kernel
theorem dX8_protect_0 : decode cX8_protect 0 = .ok (.aload_n 0, 1) := by decide +kernel
theorem dX8_protect_1 : decode cX8_protect 1 = .ok (.iconst 0, 1) := by decide +kernel
theorem dX8_protect_2 : decode cX8_protect 2 = .ok (.putfield 108, 3) := by decide +kernel
theorem dX8_protect_5 : decode cX8_protect 5 = .ok (.iload_n 1, 1) := by decide +kernel
theorem dX8_protect_6 : decode cX8_protect 6 = .ok (.i2l, 1) := by decide +kernel
theorem dX8_protect_7 : decode cX8_protect 7 = .ok (.lconst 0, 1) := by decide +kernel
theorem dX8_protect_8 : decode cX8_protect 8 = .ok (.ldc2_w 127, 3) := by decide +kernel
theorem dX8_protect_11 : decode cX8_protect 11 = .ok (.invokestatic 87, 3) := by decide +kernel
theorem dX8_protect_14 : decode cX8_protect 14 = .ok (.ifCond .eq 15, 3) := by decide +kernel
theorem dX8_protect_17 : decode cX8_protect 17 = .ok (.iload_n 2, 1) := by decide +kernel
theorem dX8_protect_18 : decode cX8_protect 18 = .ok (.i2l, 1) := by decide +kernel
theorem dX8_protect_19 : decode cX8_protect 19 = .ok (.lconst 0, 1) := by decide +kernel
theorem dX8_protect_20 : decode cX8_protect 20 = .ok (.ldc2_w 111, 3) := by decide +kernel
theorem dX8_protect_23 : decode cX8_protect 23 = .ok (.invokestatic 87, 3) := by decide +kernel
theorem dX8_protect_26 : decode cX8_protect 26 = .ok (.ifCond .ne 6, 3) := by decide +kernel
theorem dX8_protect_29 : decode cX8_protect 29 = .ok (.bipush (-2), 2) := by decide +kernel
theorem dX8_protect_31 : decode cX8_protect 31 = .ok (.ireturn, 1) := by decide +kernel
theorem dX8_protect_32 : decode cX8_protect 32 = .ok (.aload_n 0, 1) := by decide +kernel
theorem dX8_protect_33 : decode cX8_protect 33 = .ok (.iload_n 1, 1) := by decide +kernel
theorem dX8_protect_34 : decode cX8_protect 34 = .ok (.putfield 129, 3) := by decide +kernel
theorem dX8_protect_37 : decode cX8_protect 37 = .ok (.aload_n 0, 1) := by decide +kernel
theorem dX8_protect_38 : decode cX8_protect 38 = .ok (.iload_n 2, 1) := by decide +kernel
theorem dX8_protect_39 : decode cX8_protect 39 = .ok (.putfield 132, 3) := by decide +kernel
theorem dX8_protect_42 : decode cX8_protect 42 = .ok (.iconst 1, 1) := by decide +kernel
theorem dX8_protect_43 : decode cX8_protect 43 = .ok (.ireturn, 1) := by decide +kernel
theorem dX8_isGuarded_0 : decode cX8_isGuarded 0 = .ok (.iload_n 1, 1) := by decide +kernel
theorem dX8_isGuarded_1 : decode cX8_isGuarded 1 = .ok (.aload_n 0, 1) := by decide +kernel
theorem dX8_isGuarded_2 : decode cX8_isGuarded 2 = .ok (.getfield 129, 3) := by decide +kernel
theorem dX8_isGuarded_5 : decode cX8_isGuarded 5 = .ok (.if_icmp .lt 20, 3) := by decide +kernel
theorem dX8_isGuarded_8 : decode cX8_isGuarded 8 = .ok (.iload_n 1, 1) := by decide +kernel
theorem dX8_isGuarded_9 : decode cX8_isGuarded 9 = .ok (.aload_n 0, 1) := by decide +kernel
theorem dX8_isGuarded_10 : decode cX8_isGuarded 10 = .ok (.getfield 129, 3) := by decide +kernel
theorem dX8_isGuarded_13 : decode cX8_isGuarded 13 = .ok (.aload_n 0, 1) := by decide +kernel
theorem dX8_isGuarded_14 : decode cX8_isGuarded 14 = .ok (.getfield 132, 3) := by decide +kernel
theorem dX8_isGuarded_17 : decode cX8_isGuarded 17 = .ok (.iadd, 1) := by decide +kernel
theorem dX8_isGuarded_18 : decode cX8_isGuarded 18 = .ok (.if_icmp .ge 7, 3) := by decide +kernel
theorem dX8_isGuarded_21 : decode cX8_isGuarded 21 = .ok (.iconst 1, 1) := by decide +kernel
theorem dX8_isGuarded_22 : decode cX8_isGuarded 22 = .ok (.goto 4, 3) := by decide +kernel
theorem dX8_isGuarded_25 : decode cX8_isGuarded 25 = .ok (.iconst 0, 1) := by decide +kernel
theorem dX8_isGuarded_26 : decode cX8_isGuarded 26 = .ok (.ireturn, 1) := by decide +kernel
theorem dX8_put_0 : decode cX8_put 0 = .ok (.aload_n 0, 1) := by decide +kernel
theorem dX8_put_1 : decode cX8_put 1 = .ok (.getfield 55, 3) := by decide +kernel
theorem dX8_put_4 : decode cX8_put 4 = .ok (.aload_n 0, 1) := by decide +kernel
theorem dX8_put_5 : decode cX8_put 5 = .ok (.getfield 135, 3) := by decide +kernel
theorem dX8_put_8 : decode cX8_put 8 = .ok (.iload_n 1, 1) := by decide +kernel
theorem dX8_put_9 : decode cX8_put 9 = .ok (.sipush 255, 3) := by decide +kernel
theorem dX8_put_12 : decode cX8_put 12 = .ok (.iand, 1) := by decide +kernel
theorem dX8_put_13 : decode cX8_put 13 = .ok (.iastore, 1) := by decide +kernel
theorem dX8_put_14 : decode cX8_put 14 = .ok (.aload_n 0, 1) := by decide +kernel
theorem dX8_put_15 : decode cX8_put 15 = .ok (.dup, 1) := by decide +kernel
theorem dX8_put_16 : decode cX8_put 16 = .ok (.getfield 135, 3) := by decide +kernel
theorem dX8_put_19 : decode cX8_put 19 = .ok (.iconst 1, 1) := by decide +kernel
theorem dX8_put_20 : decode cX8_put 20 = .ok (.iadd, 1) := by decide +kernel
theorem dX8_put_21 : decode cX8_put 21 = .ok (.putfield 135, 3) := by decide +kernel
theorem dX8_put_24 : decode cX8_put 24 = .ok (.return_, 1) := by decide +kernel
theorem dX8_putFour_0 : decode cX8_putFour 0 = .ok (.aload_n 0, 1) := by decide +kernel
theorem dX8_putFour_1 : decode cX8_putFour 1 = .ok (.iload_n 1, 1) := by decide +kernel
theorem dX8_putFour_2 : decode cX8_putFour 2 = .ok (.bipush 24, 2) := by decide +kernel
theorem dX8_putFour_4 : decode cX8_putFour 4 = .ok (.ishr, 1) := by decide +kernel
theorem dX8_putFour_5 : decode cX8_putFour 5 = .ok (.invokevirtual 138, 3) := by decide +kernel
theorem dX8_putFour_8 : decode cX8_putFour 8 = .ok (.aload_n 0, 1) := by decide +kernel
theorem dX8_putFour_9 : decode cX8_putFour 9 = .ok (.iload_n 1, 1) := by decide +kernel
theorem dX8_putFour_10 : decode cX8_putFour 10 = .ok (.bipush 16, 2) := by decide +kernel
theorem dX8_putFour_12 : decode cX8_putFour 12 = .ok (.ishr, 1) := by decide +kernel
theorem dX8_putFour_13 : decode cX8_putFour 13 = .ok (.invokevirtual 138, 3) := by decide +kernel
theorem dX8_putFour_16 : decode cX8_putFour 16 = .ok (.aload_n 0, 1) := by decide +kernel
theorem dX8_putFour_17 : decode cX8_putFour 17 = .ok (.iload_n 1, 1) := by decide +kernel
theorem dX8_putFour_18 : decode cX8_putFour 18 = .ok (.bipush 8, 2) := by decide +kernel
theorem dX8_putFour_20 : decode cX8_putFour 20 = .ok (.ishr, 1) := by decide +kernel
theorem dX8_putFour_21 : decode cX8_putFour 21 = .ok (.invokevirtual 138, 3) := by decide +kernel
theorem dX8_putFour_24 : decode cX8_putFour 24 = .ok (.aload_n 0, 1) := by decide +kernel
theorem dX8_putFour_25 : decode cX8_putFour 25 = .ok (.iload_n 1, 1) := by decide +kernel
theorem dX8_putFour_26 : decode cX8_putFour 26 = .ok (.invokevirtual 138, 3) := by decide +kernel
theorem dX8_putFour_29 : decode cX8_putFour 29 = .ok (.return_, 1) := by decide +kernel
theorem dX8_putAt_0 : decode cX8_putAt 0 = .ok (.aload_n 0, 1) := by decide +kernel
theorem dX8_putAt_1 : decode cX8_putAt 1 = .ok (.getfield 135, 3) := by decide +kernel
theorem dX8_putAt_4 : decode cX8_putAt 4 = .ok (.istore_n 3, 1) := by decide +kernel
theorem dX8_putAt_5 : decode cX8_putAt 5 = .ok (.aload_n 0, 1) := by decide +kernel
theorem dX8_putAt_6 : decode cX8_putAt 6 = .ok (.iload_n 1, 1) := by decide +kernel
theorem dX8_putAt_7 : decode cX8_putAt 7 = .ok (.putfield 135, 3) := by decide +kernel
theorem dX8_putAt_10 : decode cX8_putAt 10 = .ok (.aload_n 0, 1) := by decide +kernel
theorem dX8_putAt_11 : decode cX8_putAt 11 = .ok (.iload_n 2, 1) := by decide +kernel
theorem dX8_putAt_12 : decode cX8_putAt 12 = .ok (.invokevirtual 142, 3) := by decide +kernel
theorem dX8_putAt_15 : decode cX8_putAt 15 = .ok (.aload_n 0, 1) := by decide +kernel
theorem dX8_putAt_16 : decode cX8_putAt 16 = .ok (.iload_n 3, 1) := by decide +kernel
theorem dX8_putAt_17 : decode cX8_putAt 17 = .ok (.putfield 135, 3) := by decide +kernel
theorem dX8_putAt_20 : decode cX8_putAt 20 = .ok (.return_, 1) := by decide +kernel
theorem dX8_chunk_0 : decode cX8_chunk 0 = .ok (.aload_n 0, 1) := by decide +kernel
theorem dX8_chunk_1 : decode cX8_chunk 1 = .ok (.iload_n 1, 1) := by decide +kernel
theorem dX8_chunk_2 : decode cX8_chunk 2 = .ok (.invokevirtual 142, 3) := by decide +kernel
theorem dX8_chunk_5 : decode cX8_chunk 5 = .ok (.aload_n 0, 1) := by decide +kernel
theorem dX8_chunk_6 : decode cX8_chunk 6 = .ok (.iconst 0, 1) := by decide +kernel
theorem dX8_chunk_7 : decode cX8_chunk 7 = .ok (.invokevirtual 142, 3) := by decide +kernel
theorem dX8_chunk_10 : decode cX8_chunk 10 = .ok (.aload_n 0, 1) := by decide +kernel
theorem dX8_chunk_11 : decode cX8_chunk 11 = .ok (.getfield 135, 3) := by decide +kernel
theorem dX8_chunk_14 : decode cX8_chunk 14 = .ok (.iconst 4, 1) := by decide +kernel
theorem dX8_chunk_15 : decode cX8_chunk 15 = .ok (.isub, 1) := by decide +kernel
theorem dX8_chunk_16 : decode cX8_chunk 16 = .ok (.ireturn, 1) := by decide +kernel
theorem dX8_close_0 : decode cX8_close 0 = .ok (.aload_n 0, 1) := by decide +kernel
theorem dX8_close_1 : decode cX8_close 1 = .ok (.getfield 135, 3) := by decide +kernel
theorem dX8_close_4 : decode cX8_close 4 = .ok (.iload_n 1, 1) := by decide +kernel
theorem dX8_close_5 : decode cX8_close 5 = .ok (.isub, 1) := by decide +kernel
theorem dX8_close_6 : decode cX8_close 6 = .ok (.iconst 4, 1) := by decide +kernel
theorem dX8_close_7 : decode cX8_close 7 = .ok (.isub, 1) := by decide +kernel
theorem dX8_close_8 : decode cX8_close 8 = .ok (.istore_n 2, 1) := by decide +kernel
theorem dX8_close_9 : decode cX8_close 9 = .ok (.aload_n 0, 1) := by decide +kernel
theorem dX8_close_10 : decode cX8_close 10 = .ok (.iload_n 1, 1) := by decide +kernel
theorem dX8_close_11 : decode cX8_close 11 = .ok (.iload_n 2, 1) := by decide +kernel
theorem dX8_close_12 : decode cX8_close 12 = .ok (.invokevirtual 145, 3) := by decide +kernel
theorem dX8_close_15 : decode cX8_close 15 = .ok (.iload_n 2, 1) := by decide +kernel
theorem dX8_close_16 : decode cX8_close 16 = .ok (.iconst 2, 1) := by decide +kernel
theorem dX8_close_17 : decode cX8_close 17 = .ok (.irem, 1) := by decide +kernel
theorem dX8_close_18 : decode cX8_close 18 = .ok (.iconst 1, 1) := by decide +kernel
theorem dX8_close_19 : decode cX8_close 19 = .ok (.if_icmp .ne 8, 3) := by decide +kernel
theorem dX8_close_22 : decode cX8_close 22 = .ok (.aload_n 0, 1) := by decide +kernel
theorem dX8_close_23 : decode cX8_close 23 = .ok (.iconst 0, 1) := by decide +kernel
theorem dX8_close_24 : decode cX8_close 24 = .ok (.invokevirtual 138, 3) := by decide +kernel
theorem dX8_close_27 : decode cX8_close 27 = .ok (.return_, 1) := by decide +kernel
theorem dX8_putMemory_0 : decode cX8_putMemory 0 = .ok (.aload_n 0, 1) := by decide +kernel
theorem dX8_putMemory_1 : decode cX8_putMemory 1 = .ok (.ldc 149, 2) := by decide +kernel
theorem dX8_putMemory_3 : decode cX8_putMemory 3 = .ok (.invokevirtual 150, 3) := by decide +kernel
theorem dX8_putMemory_6 : decode cX8_putMemory 6 = .ok (.istore_n 1, 1) := by decide +kernel
theorem dX8_putMemory_7 : decode cX8_putMemory 7 = .ok (.aload_n 0, 1) := by decide +kernel
theorem dX8_putMemory_8 : decode cX8_putMemory 8 = .ok (.aload_n 0, 1) := by decide +kernel
theorem dX8_putMemory_9 : decode cX8_putMemory 9 = .ok (.getfield 101, 3) := by decide +kernel
theorem dX8_putMemory_12 : decode cX8_putMemory 12 = .ok (.invokevirtual 142, 3) := by decide +kernel
theorem dX8_putMemory_15 : decode cX8_putMemory 15 = .ok (.iconst 0, 1) := by decide +kernel
theorem dX8_putMemory_16 : decode cX8_putMemory 16 = .ok (.istore_n 2, 1) := by decide +kernel
theorem dX8_putMemory_17 : decode cX8_putMemory 17 = .ok (.aload_n 0, 1) := by decide +kernel
theorem dX8_putMemory_18 : decode cX8_putMemory 18 = .ok (.getfield 91, 3) := by decide +kernel
theorem dX8_putMemory_21 : decode cX8_putMemory 21 = .ok (.istore_n 3, 1) := by decide +kernel
theorem dX8_putMemory_22 : decode cX8_putMemory 22 = .ok (.iload_n 3, 1) := by decide +kernel
theorem dX8_putMemory_23 : decode cX8_putMemory 23 = .ok (.aload_n 0, 1) := by decide +kernel
theorem dX8_putMemory_24 : decode cX8_putMemory 24 = .ok (.getfield 101, 3) := by decide +kernel
theorem dX8_putMemory_27 : decode cX8_putMemory 27 = .ok (.if_icmp .ge 81, 3) := by decide +kernel
theorem dX8_putMemory_30 : decode cX8_putMemory 30 = .ok (.aload_n 0, 1) := by decide +kernel
theorem dX8_putMemory_31 : decode cX8_putMemory 31 = .ok (.getfield 7, 3) := by decide +kernel
theorem dX8_putMemory_34 : decode cX8_putMemory 34 = .ok (.iload_n 3, 1) := by decide +kernel
theorem dX8_putMemory_35 : decode cX8_putMemory 35 = .ok (.iaload, 1) := by decide +kernel
theorem dX8_putMemory_36 : decode cX8_putMemory 36 = .ok (.aload_n 0, 1) := by decide +kernel
theorem dX8_putMemory_37 : decode cX8_putMemory 37 = .ok (.iload_n 3, 1) := by decide +kernel
theorem dX8_putMemory_38 : decode cX8_putMemory 38 = .ok (.invokevirtual 104, 3) := by decide +kernel
theorem dX8_putMemory_41 : decode cX8_putMemory 41 = .ok (.ixor, 1) := by decide +kernel
theorem dX8_putMemory_42 : decode cX8_putMemory 42 = .ok (.istore 4, 2) := by decide +kernel
theorem dX8_putMemory_44 : decode cX8_putMemory 44 = .ok (.iload 4, 2) := by decide +kernel
theorem dX8_putMemory_46 : decode cX8_putMemory 46 = .ok (.ifCond .ne 9, 3) := by decide +kernel
theorem dX8_putMemory_49 : decode cX8_putMemory 49 = .ok (.iinc 2 1, 3) := by decide +kernel
theorem dX8_putMemory_52 : decode cX8_putMemory 52 = .ok (.goto 50, 3) := by decide +kernel
theorem dX8_putMemory_55 : decode cX8_putMemory 55 = .ok (.iload_n 2, 1) := by decide +kernel
theorem dX8_putMemory_56 : decode cX8_putMemory 56 = .ok (.ifCond .le 40, 3) := by decide +kernel
theorem dX8_putMemory_59 : decode cX8_putMemory 59 = .ok (.iload_n 2, 1) := by decide +kernel
theorem dX8_putMemory_60 : decode cX8_putMemory 60 = .ok (.sipush 256, 3) := by decide +kernel
theorem dX8_putMemory_63 : decode cX8_putMemory 63 = .ok (.if_icmp .le 9, 3) := by decide +kernel
theorem dX8_putMemory_66 : decode cX8_putMemory 66 = .ok (.sipush 256, 3) := by decide +kernel
theorem dX8_putMemory_69 : decode cX8_putMemory 69 = .ok (.goto 4, 3) := by decide +kernel
theorem dX8_putMemory_72 : decode cX8_putMemory 72 = .ok (.iload_n 2, 1) := by decide +kernel
theorem dX8_putMemory_73 : decode cX8_putMemory 73 = .ok (.istore 5, 2) := by decide +kernel
theorem dX8_putMemory_75 : decode cX8_putMemory 75 = .ok (.aload_n 0, 1) := by decide +kernel
theorem dX8_putMemory_76 : decode cX8_putMemory 76 = .ok (.iconst 0, 1) := by decide +kernel
theorem dX8_putMemory_77 : decode cX8_putMemory 77 = .ok (.invokevirtual 138, 3) := by decide +kernel
theorem dX8_putMemory_80 : decode cX8_putMemory 80 = .ok (.aload_n 0, 1) := by decide +kernel
theorem dX8_putMemory_81 : decode cX8_putMemory 81 = .ok (.iload 5, 2) := by decide +kernel
theorem dX8_putMemory_83 : decode cX8_putMemory 83 = .ok (.iconst 1, 1) := by decide +kernel
theorem dX8_putMemory_84 : decode cX8_putMemory 84 = .ok (.isub, 1) := by decide +kernel
theorem dX8_putMemory_85 : decode cX8_putMemory 85 = .ok (.invokevirtual 138, 3) := by decide +kernel
theorem dX8_putMemory_88 : decode cX8_putMemory 88 = .ok (.iload_n 2, 1) := by decide +kernel
theorem dX8_putMemory_89 : decode cX8_putMemory 89 = .ok (.iload 5, 2) := by decide +kernel
theorem dX8_putMemory_91 : decode cX8_putMemory 91 = .ok (.isub, 1) := by decide +kernel
theorem dX8_putMemory_92 : decode cX8_putMemory 92 = .ok (.istore_n 2, 1) := by decide +kernel
theorem dX8_putMemory_93 : decode cX8_putMemory 93 = .ok (.goto (-38), 3) := by decide +kernel
theorem dX8_putMemory_96 : decode cX8_putMemory 96 = .ok (.aload_n 0, 1) := by decide +kernel
theorem dX8_putMemory_97 : decode cX8_putMemory 97 = .ok (.iload 4, 2) := by decide +kernel
theorem dX8_putMemory_99 : decode cX8_putMemory 99 = .ok (.invokevirtual 138, 3) := by decide +kernel
theorem dX8_putMemory_102 : decode cX8_putMemory 102 = .ok (.iinc 3 1, 3) := by decide +kernel
theorem dX8_putMemory_105 : decode cX8_putMemory 105 = .ok (.goto (-83), 3) := by decide +kernel
theorem dX8_putMemory_108 : decode cX8_putMemory 108 = .ok (.aload_n 0, 1) := by decide +kernel
theorem dX8_putMemory_109 : decode cX8_putMemory 109 = .ok (.iload_n 1, 1) := by decide +kernel
theorem dX8_putMemory_110 : decode cX8_putMemory 110 = .ok (.invokevirtual 153, 3) := by decide +kernel
theorem dX8_putMemory_113 : decode cX8_putMemory 113 = .ok (.return_, 1) := by decide +kernel
theorem dX8_save_0 : decode cX8_save 0 = .ok (.aload_n 0, 1) := by decide +kernel
theorem dX8_save_1 : decode cX8_save 1 = .ok (.iconst 0, 1) := by decide +kernel
theorem dX8_save_2 : decode cX8_save 2 = .ok (.putfield 108, 3) := by decide +kernel
theorem dX8_save_5 : decode cX8_save 5 = .ok (.aload_n 0, 1) := by decide +kernel
theorem dX8_save_6 : decode cX8_save 6 = .ok (.iconst 0, 1) := by decide +kernel
theorem dX8_save_7 : decode cX8_save 7 = .ok (.putfield 135, 3) := by decide +kernel
theorem dX8_save_10 : decode cX8_save 10 = .ok (.aload_n 0, 1) := by decide +kernel
theorem dX8_save_11 : decode cX8_save 11 = .ok (.ldc 156, 2) := by decide +kernel
theorem dX8_save_13 : decode cX8_save 13 = .ok (.invokevirtual 142, 3) := by decide +kernel
theorem dX8_save_16 : decode cX8_save 16 = .ok (.aload_n 0, 1) := by decide +kernel
theorem dX8_save_17 : decode cX8_save 17 = .ok (.iconst 0, 1) := by decide +kernel
theorem dX8_save_18 : decode cX8_save 18 = .ok (.invokevirtual 142, 3) := by decide +kernel
theorem dX8_save_21 : decode cX8_save 21 = .ok (.aload_n 0, 1) := by decide +kernel
theorem dX8_save_22 : decode cX8_save 22 = .ok (.ldc 157, 2) := by decide +kernel
theorem dX8_save_24 : decode cX8_save 24 = .ok (.invokevirtual 142, 3) := by decide +kernel
theorem dX8_save_27 : decode cX8_save 27 = .ok (.aload_n 0, 1) := by decide +kernel
theorem dX8_save_28 : decode cX8_save 28 = .ok (.ldc 158, 2) := by decide +kernel
theorem dX8_save_30 : decode cX8_save 30 = .ok (.invokevirtual 150, 3) := by decide +kernel
theorem dX8_save_33 : decode cX8_save 33 = .ok (.istore_n 1, 1) := by decide +kernel
theorem dX8_save_34 : decode cX8_save 34 = .ok (.iconst 0, 1) := by decide +kernel
theorem dX8_save_35 : decode cX8_save 35 = .ok (.istore_n 2, 1) := by decide +kernel
theorem dX8_save_36 : decode cX8_save 36 = .ok (.iload_n 2, 1) := by decide +kernel
theorem dX8_save_37 : decode cX8_save 37 = .ok (.bipush 16, 2) := by decide +kernel
theorem dX8_save_39 : decode cX8_save 39 = .ok (.if_icmp .ge 18, 3) := by decide +kernel
theorem dX8_save_42 : decode cX8_save 42 = .ok (.aload_n 0, 1) := by decide +kernel
theorem dX8_save_43 : decode cX8_save 43 = .ok (.aload_n 0, 1) := by decide +kernel
theorem dX8_save_44 : decode cX8_save 44 = .ok (.iload_n 2, 1) := by decide +kernel
theorem dX8_save_45 : decode cX8_save 45 = .ok (.invokevirtual 104, 3) := by decide +kernel
theorem dX8_save_48 : decode cX8_save 48 = .ok (.invokevirtual 138, 3) := by decide +kernel
theorem dX8_save_51 : decode cX8_save 51 = .ok (.iinc 2 1, 3) := by decide +kernel
theorem dX8_save_54 : decode cX8_save 54 = .ok (.goto (-18), 3) := by decide +kernel
theorem dX8_save_57 : decode cX8_save 57 = .ok (.aload_n 0, 1) := by decide +kernel
theorem dX8_save_58 : decode cX8_save 58 = .ok (.iload_n 1, 1) := by decide +kernel
theorem dX8_save_59 : decode cX8_save 59 = .ok (.invokevirtual 153, 3) := by decide +kernel
theorem dX8_save_62 : decode cX8_save 62 = .ok (.aload_n 0, 1) := by decide +kernel
theorem dX8_save_63 : decode cX8_save 63 = .ok (.invokevirtual 159, 3) := by decide +kernel
theorem dX8_save_66 : decode cX8_save 66 = .ok (.aload_n 0, 1) := by decide +kernel
theorem dX8_save_67 : decode cX8_save 67 = .ok (.ldc 162, 2) := by decide +kernel
theorem dX8_save_69 : decode cX8_save 69 = .ok (.invokevirtual 150, 3) := by decide +kernel
theorem dX8_save_72 : decode cX8_save 72 = .ok (.istore_n 1, 1) := by decide +kernel
theorem dX8_save_73 : decode cX8_save 73 = .ok (.iconst 0, 1) := by decide +kernel
theorem dX8_save_74 : decode cX8_save 74 = .ok (.istore_n 2, 1) := by decide +kernel
theorem dX8_save_75 : decode cX8_save 75 = .ok (.iload_n 2, 1) := by decide +kernel
theorem dX8_save_76 : decode cX8_save 76 = .ok (.aload_n 0, 1) := by decide +kernel
theorem dX8_save_77 : decode cX8_save 77 = .ok (.getfield 122, 3) := by decide +kernel
theorem dX8_save_80 : decode cX8_save 80 = .ok (.if_icmp .ge 19, 3) := by decide +kernel
theorem dX8_save_83 : decode cX8_save 83 = .ok (.aload_n 0, 1) := by decide +kernel
theorem dX8_save_84 : decode cX8_save 84 = .ok (.aload_n 0, 1) := by decide +kernel
theorem dX8_save_85 : decode cX8_save 85 = .ok (.getfield 13, 3) := by decide +kernel
theorem dX8_save_88 : decode cX8_save 88 = .ok (.iload_n 2, 1) := by decide +kernel
theorem dX8_save_89 : decode cX8_save 89 = .ok (.iaload, 1) := by decide +kernel
theorem dX8_save_90 : decode cX8_save 90 = .ok (.invokevirtual 142, 3) := by decide +kernel
theorem dX8_save_93 : decode cX8_save 93 = .ok (.iinc 2 1, 3) := by decide +kernel
theorem dX8_save_96 : decode cX8_save 96 = .ok (.goto (-21), 3) := by decide +kernel
theorem dX8_save_99 : decode cX8_save 99 = .ok (.aload_n 0, 1) := by decide +kernel
theorem dX8_save_100 : decode cX8_save 100 = .ok (.iload_n 1, 1) := by decide +kernel
theorem dX8_save_101 : decode cX8_save 101 = .ok (.invokevirtual 153, 3) := by decide +kernel
theorem dX8_save_104 : decode cX8_save 104 = .ok (.aload_n 0, 1) := by decide +kernel
theorem dX8_save_105 : decode cX8_save 105 = .ok (.getfield 119, 3) := by decide +kernel
theorem dX8_save_108 : decode cX8_save 108 = .ok (.ifCond .le 59, 3) := by decide +kernel
theorem dX8_save_111 : decode cX8_save 111 = .ok (.aload_n 0, 1) := by decide +kernel
theorem dX8_save_112 : decode cX8_save 112 = .ok (.ldc 163, 2) := by decide +kernel
theorem dX8_save_114 : decode cX8_save 114 = .ok (.invokevirtual 150, 3) := by decide +kernel
theorem dX8_save_117 : decode cX8_save 117 = .ok (.istore_n 1, 1) := by decide +kernel
theorem dX8_save_118 : decode cX8_save 118 = .ok (.aload_n 0, 1) := by decide +kernel
theorem dX8_save_119 : decode cX8_save 119 = .ok (.aload_n 0, 1) := by decide +kernel
theorem dX8_save_120 : decode cX8_save 120 = .ok (.getfield 119, 3) := by decide +kernel
theorem dX8_save_123 : decode cX8_save 123 = .ok (.invokevirtual 142, 3) := by decide +kernel
theorem dX8_save_126 : decode cX8_save 126 = .ok (.iconst 0, 1) := by decide +kernel
theorem dX8_save_127 : decode cX8_save 127 = .ok (.istore_n 2, 1) := by decide +kernel
theorem dX8_save_128 : decode cX8_save 128 = .ok (.iload_n 2, 1) := by decide +kernel
theorem dX8_save_129 : decode cX8_save 129 = .ok (.aload_n 0, 1) := by decide +kernel
theorem dX8_save_130 : decode cX8_save 130 = .ok (.getfield 119, 3) := by decide +kernel
theorem dX8_save_133 : decode cX8_save 133 = .ok (.if_icmp .ge 29, 3) := by decide +kernel
theorem dX8_save_136 : decode cX8_save 136 = .ok (.aload_n 0, 1) := by decide +kernel
theorem dX8_save_137 : decode cX8_save 137 = .ok (.aload_n 0, 1) := by decide +kernel
theorem dX8_save_138 : decode cX8_save 138 = .ok (.getfield 16, 3) := by decide +kernel
theorem dX8_save_141 : decode cX8_save 141 = .ok (.iload_n 2, 1) := by decide +kernel
theorem dX8_save_142 : decode cX8_save 142 = .ok (.iaload, 1) := by decide +kernel
theorem dX8_save_143 : decode cX8_save 143 = .ok (.invokevirtual 142, 3) := by decide +kernel
theorem dX8_save_146 : decode cX8_save 146 = .ok (.aload_n 0, 1) := by decide +kernel
theorem dX8_save_147 : decode cX8_save 147 = .ok (.aload_n 0, 1) := by decide +kernel
theorem dX8_save_148 : decode cX8_save 148 = .ok (.getfield 19, 3) := by decide +kernel
theorem dX8_save_151 : decode cX8_save 151 = .ok (.iload_n 2, 1) := by decide +kernel
theorem dX8_save_152 : decode cX8_save 152 = .ok (.iaload, 1) := by decide +kernel
theorem dX8_save_153 : decode cX8_save 153 = .ok (.invokevirtual 142, 3) := by decide +kernel
theorem dX8_save_156 : decode cX8_save 156 = .ok (.iinc 2 1, 3) := by decide +kernel
theorem dX8_save_159 : decode cX8_save 159 = .ok (.goto (-31), 3) := by decide +kernel
theorem dX8_save_162 : decode cX8_save 162 = .ok (.aload_n 0, 1) := by decide +kernel
theorem dX8_save_163 : decode cX8_save 163 = .ok (.iload_n 1, 1) := by decide +kernel
theorem dX8_save_164 : decode cX8_save 164 = .ok (.invokevirtual 153, 3) := by decide +kernel
theorem dX8_save_167 : decode cX8_save 167 = .ok (.iconst 0, 1) := by decide +kernel
theorem dX8_save_168 : decode cX8_save 168 = .ok (.istore_n 2, 1) := by decide +kernel
theorem dX8_save_169 : decode cX8_save 169 = .ok (.iload_n 2, 1) := by decide +kernel
theorem dX8_save_170 : decode cX8_save 170 = .ok (.aload_n 0, 1) := by decide +kernel
theorem dX8_save_171 : decode cX8_save 171 = .ok (.getfield 164, 3) := by decide +kernel
theorem dX8_save_174 : decode cX8_save 174 = .ok (.if_icmp .ge 58, 3) := by decide +kernel
theorem dX8_save_177 : decode cX8_save 177 = .ok (.aload_n 0, 1) := by decide +kernel
theorem dX8_save_178 : decode cX8_save 178 = .ok (.aload_n 0, 1) := by decide +kernel
theorem dX8_save_179 : decode cX8_save 179 = .ok (.getfield 25, 3) := by decide +kernel
theorem dX8_save_182 : decode cX8_save 182 = .ok (.iload_n 2, 1) := by decide +kernel
theorem dX8_save_183 : decode cX8_save 183 = .ok (.iaload, 1) := by decide +kernel
theorem dX8_save_184 : decode cX8_save 184 = .ok (.invokevirtual 150, 3) := by decide +kernel
theorem dX8_save_187 : decode cX8_save 187 = .ok (.istore_n 1, 1) := by decide +kernel
theorem dX8_save_188 : decode cX8_save 188 = .ok (.iconst 0, 1) := by decide +kernel
theorem dX8_save_189 : decode cX8_save 189 = .ok (.istore_n 3, 1) := by decide +kernel
theorem dX8_save_190 : decode cX8_save 190 = .ok (.iload_n 3, 1) := by decide +kernel
theorem dX8_save_191 : decode cX8_save 191 = .ok (.aload_n 0, 1) := by decide +kernel
theorem dX8_save_192 : decode cX8_save 192 = .ok (.getfield 28, 3) := by decide +kernel
theorem dX8_save_195 : decode cX8_save 195 = .ok (.iload_n 2, 1) := by decide +kernel
theorem dX8_save_196 : decode cX8_save 196 = .ok (.iaload, 1) := by decide +kernel
theorem dX8_save_197 : decode cX8_save 197 = .ok (.if_icmp .ge 24, 3) := by decide +kernel
theorem dX8_save_200 : decode cX8_save 200 = .ok (.aload_n 0, 1) := by decide +kernel
theorem dX8_save_201 : decode cX8_save 201 = .ok (.aload_n 0, 1) := by decide +kernel
theorem dX8_save_202 : decode cX8_save 202 = .ok (.getfield 31, 3) := by decide +kernel
theorem dX8_save_205 : decode cX8_save 205 = .ok (.bipush 60, 2) := by decide +kernel
theorem dX8_save_207 : decode cX8_save 207 = .ok (.iload_n 2, 1) := by decide +kernel
theorem dX8_save_208 : decode cX8_save 208 = .ok (.imul, 1) := by decide +kernel
theorem dX8_save_209 : decode cX8_save 209 = .ok (.iload_n 3, 1) := by decide +kernel
theorem dX8_save_210 : decode cX8_save 210 = .ok (.iadd, 1) := by decide +kernel
theorem dX8_save_211 : decode cX8_save 211 = .ok (.iaload, 1) := by decide +kernel
theorem dX8_save_212 : decode cX8_save 212 = .ok (.invokevirtual 138, 3) := by decide +kernel
theorem dX8_save_215 : decode cX8_save 215 = .ok (.iinc 3 1, 3) := by decide +kernel
theorem dX8_save_218 : decode cX8_save 218 = .ok (.goto (-28), 3) := by decide +kernel
theorem dX8_save_221 : decode cX8_save 221 = .ok (.aload_n 0, 1) := by decide +kernel
theorem dX8_save_222 : decode cX8_save 222 = .ok (.iload_n 1, 1) := by decide +kernel
theorem dX8_save_223 : decode cX8_save 223 = .ok (.invokevirtual 153, 3) := by decide +kernel
theorem dX8_save_226 : decode cX8_save 226 = .ok (.iinc 2 1, 3) := by decide +kernel
theorem dX8_save_229 : decode cX8_save 229 = .ok (.goto (-60), 3) := by decide +kernel
theorem dX8_save_232 : decode cX8_save 232 = .ok (.aload_n 0, 1) := by decide +kernel
theorem dX8_save_233 : decode cX8_save 233 = .ok (.iconst 4, 1) := by decide +kernel
theorem dX8_save_234 : decode cX8_save 234 = .ok (.aload_n 0, 1) := by decide +kernel
theorem dX8_save_235 : decode cX8_save 235 = .ok (.getfield 135, 3) := by decide +kernel
theorem dX8_save_238 : decode cX8_save 238 = .ok (.bipush 8, 2) := by decide +kernel
theorem dX8_save_240 : decode cX8_save 240 = .ok (.isub, 1) := by decide +kernel
theorem dX8_save_241 : decode cX8_save 241 = .ok (.invokevirtual 145, 3) := by decide +kernel
theorem dX8_save_244 : decode cX8_save 244 = .ok (.aload_n 0, 1) := by decide +kernel
theorem dX8_save_245 : decode cX8_save 245 = .ok (.getfield 135, 3) := by decide +kernel
theorem dX8_save_248 : decode cX8_save 248 = .ok (.sipush 1200, 3) := by decide +kernel
theorem dX8_save_251 : decode cX8_save 251 = .ok (.if_icmp .le 6, 3) := by decide +kernel
theorem dX8_save_254 : decode cX8_save 254 = .ok (.bipush (-4), 2) := by decide +kernel
theorem dX8_save_256 : decode cX8_save 256 = .ok (.ireturn, 1) := by decide +kernel
theorem dX8_save_257 : decode cX8_save 257 = .ok (.iconst 0, 1) := by decide +kernel
theorem dX8_save_258 : decode cX8_save 258 = .ok (.istore_n 2, 1) := by decide +kernel
theorem dX8_save_259 : decode cX8_save 259 = .ok (.iload_n 2, 1) := by decide +kernel
theorem dX8_save_260 : decode cX8_save 260 = .ok (.aload_n 0, 1) := by decide +kernel
theorem dX8_save_261 : decode cX8_save 261 = .ok (.getfield 135, 3) := by decide +kernel
theorem dX8_save_264 : decode cX8_save 264 = .ok (.if_icmp .ge 21, 3) := by decide +kernel
theorem dX8_save_267 : decode cX8_save 267 = .ok (.aload_n 0, 1) := by decide +kernel
theorem dX8_save_268 : decode cX8_save 268 = .ok (.getfield 22, 3) := by decide +kernel
theorem dX8_save_271 : decode cX8_save 271 = .ok (.iload_n 2, 1) := by decide +kernel
theorem dX8_save_272 : decode cX8_save 272 = .ok (.aload_n 0, 1) := by decide +kernel
theorem dX8_save_273 : decode cX8_save 273 = .ok (.getfield 55, 3) := by decide +kernel
theorem dX8_save_276 : decode cX8_save 276 = .ok (.iload_n 2, 1) := by decide +kernel
theorem dX8_save_277 : decode cX8_save 277 = .ok (.iaload, 1) := by decide +kernel
theorem dX8_save_278 : decode cX8_save 278 = .ok (.iastore, 1) := by decide +kernel
theorem dX8_save_279 : decode cX8_save 279 = .ok (.iinc 2 1, 3) := by decide +kernel
theorem dX8_save_282 : decode cX8_save 282 = .ok (.goto (-23), 3) := by decide +kernel
theorem dX8_save_285 : decode cX8_save 285 = .ok (.aload_n 0, 1) := by decide +kernel
theorem dX8_save_286 : decode cX8_save 286 = .ok (.aload_n 0, 1) := by decide +kernel
theorem dX8_save_287 : decode cX8_save 287 = .ok (.getfield 135, 3) := by decide +kernel
theorem dX8_save_290 : decode cX8_save 290 = .ok (.putfield 167, 3) := by decide +kernel
theorem dX8_save_293 : decode cX8_save 293 = .ok (.aload_n 0, 1) := by decide +kernel
theorem dX8_save_294 : decode cX8_save 294 = .ok (.getfield 135, 3) := by decide +kernel
theorem dX8_save_297 : decode cX8_save 297 = .ok (.ireturn, 1) := by decide +kernel
theorem dX8_fail_0 : decode cX8_fail 0 = .ok (.aload_n 0, 1) := by decide +kernel
theorem dX8_fail_1 : decode cX8_fail 1 = .ok (.getfield 170, 3) := by decide +kernel
theorem dX8_fail_4 : decode cX8_fail 4 = .ok (.ifCond .ne 13, 3) := by decide +kernel
theorem dX8_fail_7 : decode cX8_fail 7 = .ok (.aload_n 0, 1) := by decide +kernel
theorem dX8_fail_8 : decode cX8_fail 8 = .ok (.iload_n 1, 1) := by decide +kernel
theorem dX8_fail_9 : decode cX8_fail 9 = .ok (.putfield 170, 3) := by decide +kernel
theorem dX8_fail_12 : decode cX8_fail 12 = .ok (.aload_n 0, 1) := by decide +kernel
theorem dX8_fail_13 : decode cX8_fail 13 = .ok (.iload_n 2, 1) := by decide +kernel
theorem dX8_fail_14 : decode cX8_fail 14 = .ok (.putfield 173, 3) := by decide +kernel
theorem dX8_fail_17 : decode cX8_fail 17 = .ok (.return_, 1) := by decide +kernel
theorem dX8_fourAt_0 : decode cX8_fourAt 0 = .ok (.aload_n 0, 1) := by decide +kernel
theorem dX8_fourAt_1 : decode cX8_fourAt 1 = .ok (.getfield 22, 3) := by decide +kernel
theorem dX8_fourAt_4 : decode cX8_fourAt 4 = .ok (.iload_n 1, 1) := by decide +kernel
theorem dX8_fourAt_5 : decode cX8_fourAt 5 = .ok (.iaload, 1) := by decide +kernel
theorem dX8_fourAt_6 : decode cX8_fourAt 6 = .ok (.bipush 24, 2) := by decide +kernel
theorem dX8_fourAt_8 : decode cX8_fourAt 8 = .ok (.ishl, 1) := by decide +kernel
theorem dX8_fourAt_9 : decode cX8_fourAt 9 = .ok (.aload_n 0, 1) := by decide +kernel
theorem dX8_fourAt_10 : decode cX8_fourAt 10 = .ok (.getfield 22, 3) := by decide +kernel
theorem dX8_fourAt_13 : decode cX8_fourAt 13 = .ok (.iload_n 1, 1) := by decide +kernel
theorem dX8_fourAt_14 : decode cX8_fourAt 14 = .ok (.iconst 1, 1) := by decide +kernel
theorem dX8_fourAt_15 : decode cX8_fourAt 15 = .ok (.iadd, 1) := by decide +kernel
theorem dX8_fourAt_16 : decode cX8_fourAt 16 = .ok (.iaload, 1) := by decide +kernel
theorem dX8_fourAt_17 : decode cX8_fourAt 17 = .ok (.bipush 16, 2) := by decide +kernel
theorem dX8_fourAt_19 : decode cX8_fourAt 19 = .ok (.ishl, 1) := by decide +kernel
theorem dX8_fourAt_20 : decode cX8_fourAt 20 = .ok (.ior, 1) := by decide +kernel
theorem dX8_fourAt_21 : decode cX8_fourAt 21 = .ok (.aload_n 0, 1) := by decide +kernel
theorem dX8_fourAt_22 : decode cX8_fourAt 22 = .ok (.getfield 22, 3) := by decide +kernel
theorem dX8_fourAt_25 : decode cX8_fourAt 25 = .ok (.iload_n 1, 1) := by decide +kernel
theorem dX8_fourAt_26 : decode cX8_fourAt 26 = .ok (.iconst 2, 1) := by decide +kernel
theorem dX8_fourAt_27 : decode cX8_fourAt 27 = .ok (.iadd, 1) := by decide +kernel
theorem dX8_fourAt_28 : decode cX8_fourAt 28 = .ok (.iaload, 1) := by decide +kernel
theorem dX8_fourAt_29 : decode cX8_fourAt 29 = .ok (.bipush 8, 2) := by decide +kernel
theorem dX8_fourAt_31 : decode cX8_fourAt 31 = .ok (.ishl, 1) := by decide +kernel
theorem dX8_fourAt_32 : decode cX8_fourAt 32 = .ok (.ior, 1) := by decide +kernel
theorem dX8_fourAt_33 : decode cX8_fourAt 33 = .ok (.aload_n 0, 1) := by decide +kernel
theorem dX8_fourAt_34 : decode cX8_fourAt 34 = .ok (.getfield 22, 3) := by decide +kernel
theorem dX8_fourAt_37 : decode cX8_fourAt 37 = .ok (.iload_n 1, 1) := by decide +kernel
theorem dX8_fourAt_38 : decode cX8_fourAt 38 = .ok (.iconst 3, 1) := by decide +kernel
theorem dX8_fourAt_39 : decode cX8_fourAt 39 = .ok (.iadd, 1) := by decide +kernel
theorem dX8_fourAt_40 : decode cX8_fourAt 40 = .ok (.iaload, 1) := by decide +kernel
theorem dX8_fourAt_41 : decode cX8_fourAt 41 = .ok (.ior, 1) := by decide +kernel
theorem dX8_fourAt_42 : decode cX8_fourAt 42 = .ok (.ireturn, 1) := by decide +kernel
theorem dX8_has_0 : decode cX8_has 0 = .ok (.aload_n 0, 1) := by decide +kernel
theorem dX8_has_1 : decode cX8_has 1 = .ok (.getfield 176, 3) := by decide +kernel
theorem dX8_has_4 : decode cX8_has 4 = .ok (.i2l, 1) := by decide +kernel
theorem dX8_has_5 : decode cX8_has 5 = .ok (.lload_n 1, 1) := by decide +kernel
theorem dX8_has_6 : decode cX8_has 6 = .ok (.ladd, 1) := by decide +kernel
theorem dX8_has_7 : decode cX8_has 7 = .ok (.aload_n 0, 1) := by decide +kernel
theorem dX8_has_8 : decode cX8_has 8 = .ok (.getfield 167, 3) := by decide +kernel
theorem dX8_has_11 : decode cX8_has 11 = .ok (.i2l, 1) := by decide +kernel
theorem dX8_has_12 : decode cX8_has 12 = .ok (.lcmp, 1) := by decide +kernel
theorem dX8_has_13 : decode cX8_has 13 = .ok (.ifCond .le 12, 3) := by decide +kernel
theorem dX8_has_16 : decode cX8_has 16 = .ok (.aload_n 0, 1) := by decide +kernel
theorem dX8_has_17 : decode cX8_has 17 = .ok (.iconst 1, 1) := by decide +kernel
theorem dX8_has_18 : decode cX8_has 18 = .ok (.aload_n 0, 1) := by decide +kernel
theorem dX8_has_19 : decode cX8_has 19 = .ok (.getfield 167, 3) := by decide +kernel
theorem dX8_has_22 : decode cX8_has 22 = .ok (.invokevirtual 179, 3) := by decide +kernel
theorem dX8_has_25 : decode cX8_has 25 = .ok (.aload_n 0, 1) := by decide +kernel
theorem dX8_has_26 : decode cX8_has 26 = .ok (.getfield 170, 3) := by decide +kernel
theorem dX8_has_29 : decode cX8_has 29 = .ok (.ifCond .ne 7, 3) := by decide +kernel
theorem dX8_has_32 : decode cX8_has 32 = .ok (.iconst 1, 1) := by decide +kernel
theorem dX8_has_33 : decode cX8_has 33 = .ok (.goto 4, 3) := by decide +kernel
theorem dX8_has_36 : decode cX8_has 36 = .ok (.iconst 0, 1) := by decide +kernel
theorem dX8_has_37 : decode cX8_has 37 = .ok (.ireturn, 1) := by decide +kernel
theorem dX8_letters_0 : decode cX8_letters 0 = .ok (.iconst 0, 1) := by decide +kernel
theorem dX8_letters_1 : decode cX8_letters 1 = .ok (.istore_n 2, 1) := by decide +kernel
theorem dX8_letters_2 : decode cX8_letters 2 = .ok (.iload_n 2, 1) := by decide +kernel
theorem dX8_letters_3 : decode cX8_letters 3 = .ok (.iconst 4, 1) := by decide +kernel
theorem dX8_letters_4 : decode cX8_letters 4 = .ok (.if_icmp .ge 68, 3) := by decide +kernel
theorem dX8_letters_7 : decode cX8_letters 7 = .ok (.aload_n 0, 1) := by decide +kernel
theorem dX8_letters_8 : decode cX8_letters 8 = .ok (.getfield 170, 3) := by decide +kernel
theorem dX8_letters_11 : decode cX8_letters 11 = .ok (.ifCond .ne 61, 3) := by decide +kernel
