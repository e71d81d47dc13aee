theorem d_LI_init_0 : decode b_LI_init 0 = .ok (.aload_n 0, 1) := by decide +kernel
theorem d_LI_init_1 : decode b_LI_init 1 = .ok (.invokespecial 3, 3) := by decide +kernel
theorem d_LI_init_4 : decode b_LI_init 4 = .ok (.aload_n 0, 1) := by decide +kernel
theorem d_LI_init_5 : decode b_LI_init 5 = .ok (.sipush 144, 3) := by decide +kernel
theorem d_LI_init_8 : decode b_LI_init 8 = .ok (.newarray .int, 2) := by decide +kernel
theorem d_LI_init_10 : decode b_LI_init 10 = .ok (.putfield 9, 3) := by decide +kernel
theorem d_LI_init_13 : decode b_LI_init 13 = .ok (.aload_n 0, 1) := by decide +kernel
theorem d_LI_init_14 : decode b_LI_init 14 = .ok (.iconst 4, 1) := by decide +kernel
theorem d_LI_init_15 : decode b_LI_init 15 = .ok (.newarray .int, 2) := by decide +kernel
theorem d_LI_init_17 : decode b_LI_init 17 = .ok (.putfield 15, 3) := by decide +kernel
theorem d_LI_init_20 : decode b_LI_init 20 = .ok (.return_, 1) := by decide +kernel
theorem d_LI_isFull_0 : decode b_LI_isFull 0 = .ok (.aload_n 0, 1) := by decide +kernel
theorem d_LI_isFull_1 : decode b_LI_isFull 1 = .ok (.getfield 15, 3) := by decide +kernel
theorem d_LI_isFull_4 : decode b_LI_isFull 4 = .ok (.iload_n 1, 1) := by decide +kernel
theorem d_LI_isFull_5 : decode b_LI_isFull 5 = .ok (.iaload, 1) := by decide +kernel
theorem d_LI_isFull_6 : decode b_LI_isFull 6 = .ok (.bipush 12, 2) := by decide +kernel
theorem d_LI_isFull_8 : decode b_LI_isFull 8 = .ok (.if_icmp .ne 7, 3) := by decide +kernel
theorem d_LI_isFull_11 : decode b_LI_isFull 11 = .ok (.iconst 1, 1) := by decide +kernel
theorem d_LI_isFull_12 : decode b_LI_isFull 12 = .ok (.goto 4, 3) := by decide +kernel
theorem d_LI_isFull_15 : decode b_LI_isFull 15 = .ok (.iconst 0, 1) := by decide +kernel
theorem d_LI_isFull_16 : decode b_LI_isFull 16 = .ok (.ireturn, 1) := by decide +kernel
theorem d_LI_append_0 : decode b_LI_append 0 = .ok (.iload_n 1, 1) := by decide +kernel
theorem d_LI_append_1 : decode b_LI_append 1 = .ok (.bipush 12, 2) := by decide +kernel
theorem d_LI_append_3 : decode b_LI_append 3 = .ok (.imul, 1) := by decide +kernel
theorem d_LI_append_4 : decode b_LI_append 4 = .ok (.aload_n 0, 1) := by decide +kernel
theorem d_LI_append_5 : decode b_LI_append 5 = .ok (.getfield 15, 3) := by decide +kernel
theorem d_LI_append_8 : decode b_LI_append 8 = .ok (.iload_n 1, 1) := by decide +kernel
theorem d_LI_append_9 : decode b_LI_append 9 = .ok (.iaload, 1) := by decide +kernel
theorem d_LI_append_10 : decode b_LI_append 10 = .ok (.iadd, 1) := by decide +kernel
theorem d_LI_append_11 : decode b_LI_append 11 = .ok (.iconst 3, 1) := by decide +kernel
theorem d_LI_append_12 : decode b_LI_append 12 = .ok (.imul, 1) := by decide +kernel
theorem d_LI_append_13 : decode b_LI_append 13 = .ok (.istore 5, 2) := by decide +kernel
theorem d_LI_append_15 : decode b_LI_append 15 = .ok (.aload_n 0, 1) := by decide +kernel
theorem d_LI_append_16 : decode b_LI_append 16 = .ok (.getfield 9, 3) := by decide +kernel
theorem d_LI_append_19 : decode b_LI_append 19 = .ok (.iload 5, 2) := by decide +kernel
theorem d_LI_append_21 : decode b_LI_append 21 = .ok (.iload_n 2, 1) := by decide +kernel
theorem d_LI_append_22 : decode b_LI_append 22 = .ok (.invokestatic 18, 3) := by decide +kernel
theorem d_LI_append_25 : decode b_LI_append 25 = .ok (.iastore, 1) := by decide +kernel
theorem d_LI_append_26 : decode b_LI_append 26 = .ok (.aload_n 0, 1) := by decide +kernel
theorem d_LI_append_27 : decode b_LI_append 27 = .ok (.getfield 9, 3) := by decide +kernel
theorem d_LI_append_30 : decode b_LI_append 30 = .ok (.iload 5, 2) := by decide +kernel
theorem d_LI_append_32 : decode b_LI_append 32 = .ok (.iconst 1, 1) := by decide +kernel
theorem d_LI_append_33 : decode b_LI_append 33 = .ok (.iadd, 1) := by decide +kernel
theorem d_LI_append_34 : decode b_LI_append 34 = .ok (.iload_n 3, 1) := by decide +kernel
theorem d_LI_append_35 : decode b_LI_append 35 = .ok (.invokestatic 18, 3) := by decide +kernel
theorem d_LI_append_38 : decode b_LI_append 38 = .ok (.iastore, 1) := by decide +kernel
theorem d_LI_append_39 : decode b_LI_append 39 = .ok (.aload_n 0, 1) := by decide +kernel
theorem d_LI_append_40 : decode b_LI_append 40 = .ok (.getfield 9, 3) := by decide +kernel
theorem d_LI_append_43 : decode b_LI_append 43 = .ok (.iload 5, 2) := by decide +kernel
theorem d_LI_append_45 : decode b_LI_append 45 = .ok (.iconst 2, 1) := by decide +kernel
theorem d_LI_append_46 : decode b_LI_append 46 = .ok (.iadd, 1) := by decide +kernel
theorem d_LI_append_47 : decode b_LI_append 47 = .ok (.iload 4, 2) := by decide +kernel
theorem d_LI_append_49 : decode b_LI_append 49 = .ok (.invokestatic 18, 3) := by decide +kernel
theorem d_LI_append_52 : decode b_LI_append 52 = .ok (.iastore, 1) := by decide +kernel
theorem d_LI_append_53 : decode b_LI_append 53 = .ok (.aload_n 0, 1) := by decide +kernel
theorem d_LI_append_54 : decode b_LI_append 54 = .ok (.getfield 15, 3) := by decide +kernel
theorem d_LI_append_57 : decode b_LI_append 57 = .ok (.iload_n 1, 1) := by decide +kernel
theorem d_LI_append_58 : decode b_LI_append 58 = .ok (.dup2, 1) := by decide +kernel
theorem d_LI_append_59 : decode b_LI_append 59 = .ok (.iaload, 1) := by decide +kernel
theorem d_LI_append_60 : decode b_LI_append 60 = .ok (.iconst 1, 1) := by decide +kernel
theorem d_LI_append_61 : decode b_LI_append 61 = .ok (.iadd, 1) := by decide +kernel
theorem d_LI_append_62 : decode b_LI_append 62 = .ok (.iastore, 1) := by decide +kernel
theorem d_LI_append_63 : decode b_LI_append 63 = .ok (.return_, 1) := by decide +kernel
theorem d_LI_supportedAt_0 : decode b_LI_supportedAt 0 = .ok (.iconst 0, 1) := by decide +kernel
theorem d_LI_supportedAt_1 : decode b_LI_supportedAt 1 = .ok (.istore 6, 2) := by decide +kernel
theorem d_LI_supportedAt_3 : decode b_LI_supportedAt 3 = .ok (.iconst 0, 1) := by decide +kernel
theorem d_LI_supportedAt_4 : decode b_LI_supportedAt 4 = .ok (.istore 7, 2) := by decide +kernel
theorem d_LI_supportedAt_6 : decode b_LI_supportedAt 6 = .ok (.iload 7, 2) := by decide +kernel
theorem d_LI_supportedAt_8 : decode b_LI_supportedAt 8 = .ok (.aload_n 0, 1) := by decide +kernel
theorem d_LI_supportedAt_9 : decode b_LI_supportedAt 9 = .ok (.getfield 15, 3) := by decide +kernel
theorem d_LI_supportedAt_12 : decode b_LI_supportedAt 12 = .ok (.iload_n 1, 1) := by decide +kernel
theorem d_LI_supportedAt_13 : decode b_LI_supportedAt 13 = .ok (.iaload, 1) := by decide +kernel
theorem d_LI_supportedAt_14 : decode b_LI_supportedAt 14 = .ok (.if_icmp .ge 78, 3) := by decide +kernel
theorem d_LI_supportedAt_17 : decode b_LI_supportedAt 17 = .ok (.aload_n 0, 1) := by decide +kernel
theorem d_LI_supportedAt_18 : decode b_LI_supportedAt 18 = .ok (.iload_n 1, 1) := by decide +kernel
theorem d_LI_supportedAt_19 : decode b_LI_supportedAt 19 = .ok (.iload 7, 2) := by decide +kernel
theorem d_LI_supportedAt_21 : decode b_LI_supportedAt 21 = .ok (.iload_n 2, 1) := by decide +kernel
theorem d_LI_supportedAt_22 : decode b_LI_supportedAt 22 = .ok (.iconst 1, 1) := by decide +kernel
theorem d_LI_supportedAt_23 : decode b_LI_supportedAt 23 = .ok (.iadd, 1) := by decide +kernel
theorem d_LI_supportedAt_24 : decode b_LI_supportedAt 24 = .ok (.invokevirtual 22, 3) := by decide +kernel
theorem d_LI_supportedAt_27 : decode b_LI_supportedAt 27 = .ok (.iload 4, 2) := by decide +kernel
theorem d_LI_supportedAt_29 : decode b_LI_supportedAt 29 = .ok (.iand, 1) := by decide +kernel
theorem d_LI_supportedAt_30 : decode b_LI_supportedAt 30 = .ok (.ifCond .eq 7, 3) := by decide +kernel
theorem d_LI_supportedAt_33 : decode b_LI_supportedAt 33 = .ok (.iconst 1, 1) := by decide +kernel
theorem d_LI_supportedAt_34 : decode b_LI_supportedAt 34 = .ok (.goto 4, 3) := by decide +kernel
theorem d_LI_supportedAt_37 : decode b_LI_supportedAt 37 = .ok (.iconst 0, 1) := by decide +kernel
theorem d_LI_supportedAt_38 : decode b_LI_supportedAt 38 = .ok (.istore 8, 2) := by decide +kernel
theorem d_LI_supportedAt_40 : decode b_LI_supportedAt 40 = .ok (.aload_n 0, 1) := by decide +kernel
theorem d_LI_supportedAt_41 : decode b_LI_supportedAt 41 = .ok (.iload_n 1, 1) := by decide +kernel
theorem d_LI_supportedAt_42 : decode b_LI_supportedAt 42 = .ok (.iload 7, 2) := by decide +kernel
theorem d_LI_supportedAt_44 : decode b_LI_supportedAt 44 = .ok (.iload_n 2, 1) := by decide +kernel
theorem d_LI_supportedAt_45 : decode b_LI_supportedAt 45 = .ok (.iconst 2, 1) := by decide +kernel
theorem d_LI_supportedAt_46 : decode b_LI_supportedAt 46 = .ok (.iadd, 1) := by decide +kernel
theorem d_LI_supportedAt_47 : decode b_LI_supportedAt 47 = .ok (.invokevirtual 22, 3) := by decide +kernel
theorem d_LI_supportedAt_50 : decode b_LI_supportedAt 50 = .ok (.iload 5, 2) := by decide +kernel
theorem d_LI_supportedAt_52 : decode b_LI_supportedAt 52 = .ok (.iand, 1) := by decide +kernel
theorem d_LI_supportedAt_53 : decode b_LI_supportedAt 53 = .ok (.ifCond .eq 7, 3) := by decide +kernel
theorem d_LI_supportedAt_56 : decode b_LI_supportedAt 56 = .ok (.iconst 1, 1) := by decide +kernel
theorem d_LI_supportedAt_57 : decode b_LI_supportedAt 57 = .ok (.goto 4, 3) := by decide +kernel
theorem d_LI_supportedAt_60 : decode b_LI_supportedAt 60 = .ok (.iconst 0, 1) := by decide +kernel
theorem d_LI_supportedAt_61 : decode b_LI_supportedAt 61 = .ok (.istore 9, 2) := by decide +kernel
theorem d_LI_supportedAt_63 : decode b_LI_supportedAt 63 = .ok (.iload 8, 2) := by decide +kernel
theorem d_LI_supportedAt_65 : decode b_LI_supportedAt 65 = .ok (.ifCond .eq 21, 3) := by decide +kernel
theorem d_LI_supportedAt_68 : decode b_LI_supportedAt 68 = .ok (.iload 9, 2) := by decide +kernel
theorem d_LI_supportedAt_70 : decode b_LI_supportedAt 70 = .ok (.ifCond .eq 16, 3) := by decide +kernel
theorem d_LI_supportedAt_73 : decode b_LI_supportedAt 73 = .ok (.iload 6, 2) := by decide +kernel
theorem d_LI_supportedAt_75 : decode b_LI_supportedAt 75 = .ok (.aload_n 0, 1) := by decide +kernel
theorem d_LI_supportedAt_76 : decode b_LI_supportedAt 76 = .ok (.iload_n 1, 1) := by decide +kernel
theorem d_LI_supportedAt_77 : decode b_LI_supportedAt 77 = .ok (.iload 7, 2) := by decide +kernel
theorem d_LI_supportedAt_79 : decode b_LI_supportedAt 79 = .ok (.iload_n 2, 1) := by decide +kernel
theorem d_LI_supportedAt_80 : decode b_LI_supportedAt 80 = .ok (.invokevirtual 22, 3) := by decide +kernel
theorem d_LI_supportedAt_83 : decode b_LI_supportedAt 83 = .ok (.ior, 1) := by decide +kernel
theorem d_LI_supportedAt_84 : decode b_LI_supportedAt 84 = .ok (.istore 6, 2) := by decide +kernel
theorem d_LI_supportedAt_86 : decode b_LI_supportedAt 86 = .ok (.iinc 7 1, 3) := by decide +kernel
theorem d_LI_supportedAt_89 : decode b_LI_supportedAt 89 = .ok (.goto (-83), 3) := by decide +kernel
theorem d_LI_supportedAt_92 : decode b_LI_supportedAt 92 = .ok (.iload 6, 2) := by decide +kernel
theorem d_LI_supportedAt_94 : decode b_LI_supportedAt 94 = .ok (.iload_n 3, 1) := by decide +kernel
theorem d_LI_supportedAt_95 : decode b_LI_supportedAt 95 = .ok (.iand, 1) := by decide +kernel
theorem d_LI_supportedAt_96 : decode b_LI_supportedAt 96 = .ok (.ireturn, 1) := by decide +kernel
theorem d_LI_waysAt_0 : decode b_LI_waysAt 0 = .ok (.iconst 0, 1) := by decide +kernel
theorem d_LI_waysAt_1 : decode b_LI_waysAt 1 = .ok (.istore 6, 2) := by decide +kernel
theorem d_LI_waysAt_3 : decode b_LI_waysAt 3 = .ok (.iconst 0, 1) := by decide +kernel
theorem d_LI_waysAt_4 : decode b_LI_waysAt 4 = .ok (.istore 7, 2) := by decide +kernel
theorem d_LI_waysAt_6 : decode b_LI_waysAt 6 = .ok (.iload 7, 2) := by decide +kernel
theorem d_LI_waysAt_8 : decode b_LI_waysAt 8 = .ok (.bipush 16, 2) := by decide +kernel
theorem d_LI_waysAt_10 : decode b_LI_waysAt 10 = .ok (.if_icmp .ge 39, 3) := by decide +kernel
theorem d_LI_waysAt_13 : decode b_LI_waysAt 13 = .ok (.iload 4, 2) := by decide +kernel
theorem d_LI_waysAt_15 : decode b_LI_waysAt 15 = .ok (.iload 7, 2) := by decide +kernel
theorem d_LI_waysAt_17 : decode b_LI_waysAt 17 = .ok (.invokestatic 26, 3) := by decide +kernel
theorem d_LI_waysAt_20 : decode b_LI_waysAt 20 = .ok (.ifCond .eq 23, 3) := by decide +kernel
theorem d_LI_waysAt_23 : decode b_LI_waysAt 23 = .ok (.iload 6, 2) := by decide +kernel
theorem d_LI_waysAt_25 : decode b_LI_waysAt 25 = .ok (.aload_n 0, 1) := by decide +kernel
theorem d_LI_waysAt_26 : decode b_LI_waysAt 26 = .ok (.iload_n 1, 1) := by decide +kernel
theorem d_LI_waysAt_27 : decode b_LI_waysAt 27 = .ok (.iload_n 2, 1) := by decide +kernel
theorem d_LI_waysAt_28 : decode b_LI_waysAt 28 = .ok (.iload_n 3, 1) := by decide +kernel
theorem d_LI_waysAt_29 : decode b_LI_waysAt 29 = .ok (.iload 7, 2) := by decide +kernel
theorem d_LI_waysAt_31 : decode b_LI_waysAt 31 = .ok (.invokevirtual 30, 3) := by decide +kernel
theorem d_LI_waysAt_34 : decode b_LI_waysAt 34 = .ok (.iload 5, 2) := by decide +kernel
theorem d_LI_waysAt_36 : decode b_LI_waysAt 36 = .ok (.iand, 1) := by decide +kernel
theorem d_LI_waysAt_37 : decode b_LI_waysAt 37 = .ok (.invokestatic 34, 3) := by decide +kernel
theorem d_LI_waysAt_40 : decode b_LI_waysAt 40 = .ok (.iadd, 1) := by decide +kernel
theorem d_LI_waysAt_41 : decode b_LI_waysAt 41 = .ok (.istore 6, 2) := by decide +kernel
theorem d_LI_waysAt_43 : decode b_LI_waysAt 43 = .ok (.iinc 7 1, 3) := by decide +kernel
theorem d_LI_waysAt_46 : decode b_LI_waysAt 46 = .ok (.goto (-40), 3) := by decide +kernel
theorem d_LI_waysAt_49 : decode b_LI_waysAt 49 = .ok (.iload 6, 2) := by decide +kernel
theorem d_LI_waysAt_51 : decode b_LI_waysAt 51 = .ok (.ireturn, 1) := by decide +kernel
theorem d_LI_lastsBeside_0 : decode b_LI_lastsBeside 0 = .ok (.iconst 0, 1) := by decide +kernel
theorem d_LI_lastsBeside_1 : decode b_LI_lastsBeside 1 = .ok (.istore 5, 2) := by decide +kernel
theorem d_LI_lastsBeside_3 : decode b_LI_lastsBeside 3 = .ok (.iconst 0, 1) := by decide +kernel
theorem d_LI_lastsBeside_4 : decode b_LI_lastsBeside 4 = .ok (.istore 6, 2) := by decide +kernel
theorem d_LI_lastsBeside_6 : decode b_LI_lastsBeside 6 = .ok (.iload 6, 2) := by decide +kernel
theorem d_LI_lastsBeside_8 : decode b_LI_lastsBeside 8 = .ok (.aload_n 0, 1) := by decide +kernel
theorem d_LI_lastsBeside_9 : decode b_LI_lastsBeside 9 = .ok (.getfield 15, 3) := by decide +kernel
theorem d_LI_lastsBeside_12 : decode b_LI_lastsBeside 12 = .ok (.iload_n 1, 1) := by decide +kernel
theorem d_LI_lastsBeside_13 : decode b_LI_lastsBeside 13 = .ok (.iaload, 1) := by decide +kernel
theorem d_LI_lastsBeside_14 : decode b_LI_lastsBeside 14 = .ok (.if_icmp .ge 57, 3) := by decide +kernel
theorem d_LI_lastsBeside_17 : decode b_LI_lastsBeside 17 = .ok (.aload_n 0, 1) := by decide +kernel
theorem d_LI_lastsBeside_18 : decode b_LI_lastsBeside 18 = .ok (.iload_n 1, 1) := by decide +kernel
theorem d_LI_lastsBeside_19 : decode b_LI_lastsBeside 19 = .ok (.iload 6, 2) := by decide +kernel
theorem d_LI_lastsBeside_21 : decode b_LI_lastsBeside 21 = .ok (.iload_n 2, 1) := by decide +kernel
theorem d_LI_lastsBeside_22 : decode b_LI_lastsBeside 22 = .ok (.invokevirtual 22, 3) := by decide +kernel
theorem d_LI_lastsBeside_25 : decode b_LI_lastsBeside 25 = .ok (.iload_n 3, 1) := by decide +kernel
theorem d_LI_lastsBeside_26 : decode b_LI_lastsBeside 26 = .ok (.invokestatic 26, 3) := by decide +kernel
theorem d_LI_lastsBeside_29 : decode b_LI_lastsBeside 29 = .ok (.ifCond .eq 36, 3) := by decide +kernel
theorem d_LI_lastsBeside_32 : decode b_LI_lastsBeside 32 = .ok (.aload_n 0, 1) := by decide +kernel
theorem d_LI_lastsBeside_33 : decode b_LI_lastsBeside 33 = .ok (.iload_n 1, 1) := by decide +kernel
theorem d_LI_lastsBeside_34 : decode b_LI_lastsBeside 34 = .ok (.iload 6, 2) := by decide +kernel
theorem d_LI_lastsBeside_36 : decode b_LI_lastsBeside 36 = .ok (.iload_n 2, 1) := by decide +kernel
theorem d_LI_lastsBeside_37 : decode b_LI_lastsBeside 37 = .ok (.iconst 1, 1) := by decide +kernel
theorem d_LI_lastsBeside_38 : decode b_LI_lastsBeside 38 = .ok (.iadd, 1) := by decide +kernel
theorem d_LI_lastsBeside_39 : decode b_LI_lastsBeside 39 = .ok (.invokevirtual 22, 3) := by decide +kernel
theorem d_LI_lastsBeside_42 : decode b_LI_lastsBeside 42 = .ok (.iload 4, 2) := by decide +kernel
theorem d_LI_lastsBeside_44 : decode b_LI_lastsBeside 44 = .ok (.invokestatic 26, 3) := by decide +kernel
theorem d_LI_lastsBeside_47 : decode b_LI_lastsBeside 47 = .ok (.ifCond .eq 18, 3) := by decide +kernel
theorem d_LI_lastsBeside_50 : decode b_LI_lastsBeside 50 = .ok (.iload 5, 2) := by decide +kernel
theorem d_LI_lastsBeside_52 : decode b_LI_lastsBeside 52 = .ok (.aload_n 0, 1) := by decide +kernel
theorem d_LI_lastsBeside_53 : decode b_LI_lastsBeside 53 = .ok (.iload_n 1, 1) := by decide +kernel
theorem d_LI_lastsBeside_54 : decode b_LI_lastsBeside 54 = .ok (.iload 6, 2) := by decide +kernel
theorem d_LI_lastsBeside_56 : decode b_LI_lastsBeside 56 = .ok (.iload_n 2, 1) := by decide +kernel
theorem d_LI_lastsBeside_57 : decode b_LI_lastsBeside 57 = .ok (.iconst 2, 1) := by decide +kernel
theorem d_LI_lastsBeside_58 : decode b_LI_lastsBeside 58 = .ok (.iadd, 1) := by decide +kernel
theorem d_LI_lastsBeside_59 : decode b_LI_lastsBeside 59 = .ok (.invokevirtual 22, 3) := by decide +kernel
theorem d_LI_lastsBeside_62 : decode b_LI_lastsBeside 62 = .ok (.ior, 1) := by decide +kernel
theorem d_LI_lastsBeside_63 : decode b_LI_lastsBeside 63 = .ok (.istore 5, 2) := by decide +kernel
theorem d_LI_lastsBeside_65 : decode b_LI_lastsBeside 65 = .ok (.iinc 6 1, 3) := by decide +kernel
theorem d_LI_lastsBeside_68 : decode b_LI_lastsBeside 68 = .ok (.goto (-62), 3) := by decide +kernel
theorem d_LI_lastsBeside_71 : decode b_LI_lastsBeside 71 = .ok (.iload 5, 2) := by decide +kernel
theorem d_LI_lastsBeside_73 : decode b_LI_lastsBeside 73 = .ok (.ireturn, 1) := by decide +kernel
theorem d_LI_matchedAt_0 : decode b_LI_matchedAt 0 = .ok (.aload_n 0, 1) := by decide +kernel
theorem d_LI_matchedAt_1 : decode b_LI_matchedAt 1 = .ok (.getfield 9, 3) := by decide +kernel
theorem d_LI_matchedAt_4 : decode b_LI_matchedAt 4 = .ok (.iload_n 1, 1) := by decide +kernel
theorem d_LI_matchedAt_5 : decode b_LI_matchedAt 5 = .ok (.bipush 12, 2) := by decide +kernel
theorem d_LI_matchedAt_7 : decode b_LI_matchedAt 7 = .ok (.imul, 1) := by decide +kernel
theorem d_LI_matchedAt_8 : decode b_LI_matchedAt 8 = .ok (.iload_n 2, 1) := by decide +kernel
theorem d_LI_matchedAt_9 : decode b_LI_matchedAt 9 = .ok (.iadd, 1) := by decide +kernel
theorem d_LI_matchedAt_10 : decode b_LI_matchedAt 10 = .ok (.iconst 3, 1) := by decide +kernel
theorem d_LI_matchedAt_11 : decode b_LI_matchedAt 11 = .ok (.imul, 1) := by decide +kernel
theorem d_LI_matchedAt_12 : decode b_LI_matchedAt 12 = .ok (.iload_n 3, 1) := by decide +kernel
theorem d_LI_matchedAt_13 : decode b_LI_matchedAt 13 = .ok (.iconst 3, 1) := by decide +kernel
theorem d_LI_matchedAt_14 : decode b_LI_matchedAt 14 = .ok (.irem, 1) := by decide +kernel
theorem d_LI_matchedAt_15 : decode b_LI_matchedAt 15 = .ok (.iadd, 1) := by decide +kernel
theorem d_LI_matchedAt_16 : decode b_LI_matchedAt 16 = .ok (.iaload, 1) := by decide +kernel
theorem d_LI_matchedAt_17 : decode b_LI_matchedAt 17 = .ok (.ireturn, 1) := by decide +kernel
theorem d_LI_matchedBy_0 : decode b_LI_matchedBy 0 = .ok (.iload_n 0, 1) := by decide +kernel
theorem d_LI_matchedBy_1 : decode b_LI_matchedBy 1 = .ok (.iconst (-1), 1) := by decide +kernel
theorem d_LI_matchedBy_2 : decode b_LI_matchedBy 2 = .ok (.if_icmp .ne 8, 3) := by decide +kernel
theorem d_LI_matchedBy_5 : decode b_LI_matchedBy 5 = .ok (.ldc 39, 2) := by decide +kernel
theorem d_LI_matchedBy_7 : decode b_LI_matchedBy 7 = .ok (.goto 6, 3) := by decide +kernel
theorem d_LI_matchedBy_10 : decode b_LI_matchedBy 10 = .ok (.iconst 1, 1) := by decide +kernel
theorem d_LI_matchedBy_11 : decode b_LI_matchedBy 11 = .ok (.iload_n 0, 1) := by decide +kernel
theorem d_LI_matchedBy_12 : decode b_LI_matchedBy 12 = .ok (.ishl, 1) := by decide +kernel
theorem d_LI_matchedBy_13 : decode b_LI_matchedBy 13 = .ok (.ireturn, 1) := by decide +kernel
theorem d_RB_init_0 : decode b_RB_init 0 = .ok (.aload_n 0, 1) := by decide +kernel
theorem d_RB_init_1 : decode b_RB_init 1 = .ok (.invokespecial 3, 3) := by decide +kernel
theorem d_RB_init_4 : decode b_RB_init 4 = .ok (.aload_n 0, 1) := by decide +kernel
theorem d_RB_init_5 : decode b_RB_init 5 = .ok (.new 9, 3) := by decide +kernel
theorem d_RB_init_8 : decode b_RB_init 8 = .ok (.dup, 1) := by decide +kernel
theorem d_RB_init_9 : decode b_RB_init 9 = .ok (.invokespecial 11, 3) := by decide +kernel
theorem d_RB_init_12 : decode b_RB_init 12 = .ok (.putfield 12, 3) := by decide +kernel
theorem d_RB_init_15 : decode b_RB_init 15 = .ok (.aload_n 0, 1) := by decide +kernel
theorem d_RB_init_16 : decode b_RB_init 16 = .ok (.iconst 0, 1) := by decide +kernel
theorem d_RB_init_17 : decode b_RB_init 17 = .ok (.putfield 18, 3) := by decide +kernel
theorem d_RB_init_20 : decode b_RB_init 20 = .ok (.aload_n 0, 1) := by decide +kernel
theorem d_RB_init_21 : decode b_RB_init 21 = .ok (.bipush 16, 2) := by decide +kernel
theorem d_RB_init_23 : decode b_RB_init 23 = .ok (.newarray .int, 2) := by decide +kernel
theorem d_RB_init_25 : decode b_RB_init 25 = .ok (.putfield 22, 3) := by decide +kernel
theorem d_RB_init_28 : decode b_RB_init 28 = .ok (.aload_n 0, 1) := by decide +kernel
theorem d_RB_init_29 : decode b_RB_init 29 = .ok (.bipush 48, 2) := by decide +kernel
theorem d_RB_init_31 : decode b_RB_init 31 = .ok (.newarray .int, 2) := by decide +kernel
theorem d_RB_init_33 : decode b_RB_init 33 = .ok (.putfield 26, 3) := by decide +kernel
theorem d_RB_init_36 : decode b_RB_init 36 = .ok (.aload_n 0, 1) := by decide +kernel
theorem d_RB_init_37 : decode b_RB_init 37 = .ok (.bipush 16, 2) := by decide +kernel
theorem d_RB_init_39 : decode b_RB_init 39 = .ok (.newarray .int, 2) := by decide +kernel
theorem d_RB_init_41 : decode b_RB_init 41 = .ok (.putfield 29, 3) := by decide +kernel
theorem d_RB_init_44 : decode b_RB_init 44 = .ok (.return_, 1) := by decide +kernel
theorem d_RB_append_0 : decode b_RB_append 0 = .ok (.aload_n 0, 1) := by decide +kernel
theorem d_RB_append_1 : decode b_RB_append 1 = .ok (.getfield 22, 3) := by decide +kernel
theorem d_RB_append_4 : decode b_RB_append 4 = .ok (.aload_n 0, 1) := by decide +kernel
theorem d_RB_append_5 : decode b_RB_append 5 = .ok (.getfield 18, 3) := by decide +kernel
theorem d_RB_append_8 : decode b_RB_append 8 = .ok (.iload_n 1, 1) := by decide +kernel
theorem d_RB_append_9 : decode b_RB_append 9 = .ok (.iastore, 1) := by decide +kernel
theorem d_RB_append_10 : decode b_RB_append 10 = .ok (.aload_n 0, 1) := by decide +kernel
theorem d_RB_append_11 : decode b_RB_append 11 = .ok (.getfield 29, 3) := by decide +kernel
theorem d_RB_append_14 : decode b_RB_append 14 = .ok (.aload_n 0, 1) := by decide +kernel
theorem d_RB_append_15 : decode b_RB_append 15 = .ok (.getfield 18, 3) := by decide +kernel
theorem d_RB_append_18 : decode b_RB_append 18 = .ok (.iload 5, 2) := by decide +kernel
theorem d_RB_append_20 : decode b_RB_append 20 = .ok (.iastore, 1) := by decide +kernel
theorem d_RB_append_21 : decode b_RB_append 21 = .ok (.aload_n 0, 1) := by decide +kernel
theorem d_RB_append_22 : decode b_RB_append 22 = .ok (.getfield 26, 3) := by decide +kernel
theorem d_RB_append_25 : decode b_RB_append 25 = .ok (.aload_n 0, 1) := by decide +kernel
theorem d_RB_append_26 : decode b_RB_append 26 = .ok (.getfield 18, 3) := by decide +kernel
theorem d_RB_append_29 : decode b_RB_append 29 = .ok (.iconst 3, 1) := by decide +kernel
theorem d_RB_append_30 : decode b_RB_append 30 = .ok (.imul, 1) := by decide +kernel
theorem d_RB_append_31 : decode b_RB_append 31 = .ok (.iload_n 2, 1) := by decide +kernel
theorem d_RB_append_32 : decode b_RB_append 32 = .ok (.iastore, 1) := by decide +kernel
theorem d_RB_append_33 : decode b_RB_append 33 = .ok (.aload_n 0, 1) := by decide +kernel
theorem d_RB_append_34 : decode b_RB_append 34 = .ok (.getfield 26, 3) := by decide +kernel
theorem d_RB_append_37 : decode b_RB_append 37 = .ok (.aload_n 0, 1) := by decide +kernel
theorem d_RB_append_38 : decode b_RB_append 38 = .ok (.getfield 18, 3) := by decide +kernel
theorem d_RB_append_41 : decode b_RB_append 41 = .ok (.iconst 3, 1) := by decide +kernel
theorem d_RB_append_42 : decode b_RB_append 42 = .ok (.imul, 1) := by decide +kernel
theorem d_RB_append_43 : decode b_RB_append 43 = .ok (.iconst 1, 1) := by decide +kernel
theorem d_RB_append_44 : decode b_RB_append 44 = .ok (.iadd, 1) := by decide +kernel
theorem d_RB_append_45 : decode b_RB_append 45 = .ok (.iload_n 3, 1) := by decide +kernel
theorem d_RB_append_46 : decode b_RB_append 46 = .ok (.iastore, 1) := by decide +kernel
theorem d_RB_append_47 : decode b_RB_append 47 = .ok (.aload_n 0, 1) := by decide +kernel
theorem d_RB_append_48 : decode b_RB_append 48 = .ok (.getfield 26, 3) := by decide +kernel
theorem d_RB_append_51 : decode b_RB_append 51 = .ok (.aload_n 0, 1) := by decide +kernel
theorem d_RB_append_52 : decode b_RB_append 52 = .ok (.getfield 18, 3) := by decide +kernel
theorem d_RB_append_55 : decode b_RB_append 55 = .ok (.iconst 3, 1) := by decide +kernel
theorem d_RB_append_56 : decode b_RB_append 56 = .ok (.imul, 1) := by decide +kernel
theorem d_RB_append_57 : decode b_RB_append 57 = .ok (.iconst 2, 1) := by decide +kernel
theorem d_RB_append_58 : decode b_RB_append 58 = .ok (.iadd, 1) := by decide +kernel
theorem d_RB_append_59 : decode b_RB_append 59 = .ok (.iload 4, 2) := by decide +kernel
theorem d_RB_append_61 : decode b_RB_append 61 = .ok (.iastore, 1) := by decide +kernel
theorem d_RB_append_62 : decode b_RB_append 62 = .ok (.aload_n 0, 1) := by decide +kernel
theorem d_RB_append_63 : decode b_RB_append 63 = .ok (.dup, 1) := by decide +kernel
theorem d_RB_append_64 : decode b_RB_append 64 = .ok (.getfield 18, 3) := by decide +kernel
theorem d_RB_append_67 : decode b_RB_append 67 = .ok (.iconst 1, 1) := by decide +kernel
theorem d_RB_append_68 : decode b_RB_append 68 = .ok (.iadd, 1) := by decide +kernel
theorem d_RB_append_69 : decode b_RB_append 69 = .ok (.putfield 18, 3) := by decide +kernel
theorem d_RB_append_72 : decode b_RB_append 72 = .ok (.aload_n 0, 1) := by decide +kernel
theorem d_RB_append_73 : decode b_RB_append 73 = .ok (.getfield 18, 3) := by decide +kernel
theorem d_RB_append_76 : decode b_RB_append 76 = .ok (.iconst 1, 1) := by decide +kernel
theorem d_RB_append_77 : decode b_RB_append 77 = .ok (.isub, 1) := by decide +kernel
theorem d_RB_append_78 : decode b_RB_append 78 = .ok (.ireturn, 1) := by decide +kernel
theorem d_RB_hasListed_0 : decode b_RB_hasListed 0 = .ok (.iconst 0, 1) := by decide +kernel
theorem d_RB_hasListed_1 : decode b_RB_hasListed 1 = .ok (.istore_n 2, 1) := by decide +kernel
theorem d_RB_hasListed_2 : decode b_RB_hasListed 2 = .ok (.iload_n 2, 1) := by decide +kernel
theorem d_RB_hasListed_3 : decode b_RB_hasListed 3 = .ok (.aload_n 0, 1) := by decide +kernel
theorem d_RB_hasListed_4 : decode b_RB_hasListed 4 = .ok (.getfield 18, 3) := by decide +kernel
theorem d_RB_hasListed_7 : decode b_RB_hasListed 7 = .ok (.if_icmp .ge 31, 3) := by decide +kernel
theorem d_RB_hasListed_10 : decode b_RB_hasListed 10 = .ok (.aload_n 0, 1) := by decide +kernel
theorem d_RB_hasListed_11 : decode b_RB_hasListed 11 = .ok (.getfield 22, 3) := by decide +kernel
theorem d_RB_hasListed_14 : decode b_RB_hasListed 14 = .ok (.iload_n 2, 1) := by decide +kernel
theorem d_RB_hasListed_15 : decode b_RB_hasListed 15 = .ok (.iaload, 1) := by decide +kernel
theorem d_RB_hasListed_16 : decode b_RB_hasListed 16 = .ok (.iconst 3, 1) := by decide +kernel
theorem d_RB_hasListed_17 : decode b_RB_hasListed 17 = .ok (.if_icmp .ne 15, 3) := by decide +kernel
theorem d_RB_hasListed_20 : decode b_RB_hasListed 20 = .ok (.aload_n 0, 1) := by decide +kernel
theorem d_RB_hasListed_21 : decode b_RB_hasListed 21 = .ok (.getfield 29, 3) := by decide +kernel
theorem d_RB_hasListed_24 : decode b_RB_hasListed 24 = .ok (.iload_n 2, 1) := by decide +kernel
theorem d_RB_hasListed_25 : decode b_RB_hasListed 25 = .ok (.iaload, 1) := by decide +kernel
theorem d_RB_hasListed_26 : decode b_RB_hasListed 26 = .ok (.iload_n 1, 1) := by decide +kernel
theorem d_RB_hasListed_27 : decode b_RB_hasListed 27 = .ok (.if_icmp .ne 5, 3) := by decide +kernel
theorem d_RB_hasListed_30 : decode b_RB_hasListed 30 = .ok (.iconst 1, 1) := by decide +kernel
theorem d_RB_hasListed_31 : decode b_RB_hasListed 31 = .ok (.ireturn, 1) := by decide +kernel
theorem d_RB_hasListed_32 : decode b_RB_hasListed 32 = .ok (.iinc 2 1, 3) := by decide +kernel
theorem d_RB_hasListed_35 : decode b_RB_hasListed 35 = .ok (.goto (-33), 3) := by decide +kernel
theorem d_RB_hasListed_38 : decode b_RB_hasListed 38 = .ok (.iconst 0, 1) := by decide +kernel
theorem d_RB_hasListed_39 : decode b_RB_hasListed 39 = .ok (.ireturn, 1) := by decide +kernel
theorem d_RB_placeOf_0 : decode b_RB_placeOf 0 = .ok (.iconst 0, 1) := by decide +kernel
theorem d_RB_placeOf_1 : decode b_RB_placeOf 1 = .ok (.istore_n 3, 1) := by decide +kernel
theorem d_RB_placeOf_2 : decode b_RB_placeOf 2 = .ok (.iload_n 3, 1) := by decide +kernel
theorem d_RB_placeOf_3 : decode b_RB_placeOf 3 = .ok (.aload_n 0, 1) := by decide +kernel
theorem d_RB_placeOf_4 : decode b_RB_placeOf 4 = .ok (.iload_n 1, 1) := by decide +kernel
theorem d_RB_placeOf_5 : decode b_RB_placeOf 5 = .ok (.invokevirtual 32, 3) := by decide +kernel
theorem d_RB_placeOf_8 : decode b_RB_placeOf 8 = .ok (.if_icmp .ge 25, 3) := by decide +kernel
theorem d_RB_placeOf_11 : decode b_RB_placeOf 11 = .ok (.aload_n 0, 1) := by decide +kernel
theorem d_RB_placeOf_12 : decode b_RB_placeOf 12 = .ok (.getfield 26, 3) := by decide +kernel
theorem d_RB_placeOf_15 : decode b_RB_placeOf 15 = .ok (.iload_n 1, 1) := by decide +kernel
theorem d_RB_placeOf_16 : decode b_RB_placeOf 16 = .ok (.iconst 3, 1) := by decide +kernel
theorem d_RB_placeOf_17 : decode b_RB_placeOf 17 = .ok (.imul, 1) := by decide +kernel
theorem d_RB_placeOf_18 : decode b_RB_placeOf 18 = .ok (.iload_n 3, 1) := by decide +kernel
theorem d_RB_placeOf_19 : decode b_RB_placeOf 19 = .ok (.iadd, 1) := by decide +kernel
theorem d_RB_placeOf_20 : decode b_RB_placeOf 20 = .ok (.iaload, 1) := by decide +kernel
theorem d_RB_placeOf_21 : decode b_RB_placeOf 21 = .ok (.iload_n 2, 1) := by decide +kernel
theorem d_RB_placeOf_22 : decode b_RB_placeOf 22 = .ok (.if_icmp .ne 5, 3) := by decide +kernel
theorem d_RB_placeOf_25 : decode b_RB_placeOf 25 = .ok (.iload_n 3, 1) := by decide +kernel
theorem d_RB_placeOf_26 : decode b_RB_placeOf 26 = .ok (.ireturn, 1) := by decide +kernel
theorem d_RB_placeOf_27 : decode b_RB_placeOf 27 = .ok (.iinc 3 1, 3) := by decide +kernel
theorem d_RB_placeOf_30 : decode b_RB_placeOf 30 = .ok (.goto (-28), 3) := by decide +kernel
theorem d_RB_placeOf_33 : decode b_RB_placeOf 33 = .ok (.iconst (-1), 1) := by decide +kernel
theorem d_RB_placeOf_34 : decode b_RB_placeOf 34 = .ok (.ireturn, 1) := by decide +kernel
theorem d_RB_countOpenRules_0 : decode b_RB_countOpenRules 0 = .ok (.iconst 0, 1) := by decide +kernel
theorem d_RB_countOpenRules_1 : decode b_RB_countOpenRules 1 = .ok (.istore_n 3, 1) := by decide +kernel
theorem d_RB_countOpenRules_2 : decode b_RB_countOpenRules 2 = .ok (.iconst 0, 1) := by decide +kernel
theorem d_RB_countOpenRules_3 : decode b_RB_countOpenRules 3 = .ok (.istore 4, 2) := by decide +kernel
theorem d_RB_countOpenRules_5 : decode b_RB_countOpenRules 5 = .ok (.iload 4, 2) := by decide +kernel
theorem d_RB_countOpenRules_7 : decode b_RB_countOpenRules 7 = .ok (.aload_n 0, 1) := by decide +kernel
theorem d_RB_countOpenRules_8 : decode b_RB_countOpenRules 8 = .ok (.getfield 18, 3) := by decide +kernel
theorem d_RB_countOpenRules_11 : decode b_RB_countOpenRules 11 = .ok (.if_icmp .ge 33, 3) := by decide +kernel
theorem d_RB_countOpenRules_14 : decode b_RB_countOpenRules 14 = .ok (.aload_n 0, 1) := by decide +kernel
theorem d_RB_countOpenRules_15 : decode b_RB_countOpenRules 15 = .ok (.iload 4, 2) := by decide +kernel
theorem d_RB_countOpenRules_17 : decode b_RB_countOpenRules 17 = .ok (.iload_n 1, 1) := by decide +kernel
theorem d_RB_countOpenRules_18 : decode b_RB_countOpenRules 18 = .ok (.invokevirtual 36, 3) := by decide +kernel
theorem d_RB_countOpenRules_21 : decode b_RB_countOpenRules 21 = .ok (.ifCond .lt 17, 3) := by decide +kernel
theorem d_RB_countOpenRules_24 : decode b_RB_countOpenRules 24 = .ok (.aload_n 0, 1) := by decide +kernel
theorem d_RB_countOpenRules_25 : decode b_RB_countOpenRules 25 = .ok (.iload 4, 2) := by decide +kernel
theorem d_RB_countOpenRules_27 : decode b_RB_countOpenRules 27 = .ok (.iload_n 1, 1) := by decide +kernel
theorem d_RB_countOpenRules_28 : decode b_RB_countOpenRules 28 = .ok (.aload_n 2, 1) := by decide +kernel
theorem d_RB_countOpenRules_29 : decode b_RB_countOpenRules 29 = .ok (.invokevirtual 40, 3) := by decide +kernel
theorem d_RB_countOpenRules_32 : decode b_RB_countOpenRules 32 = .ok (.ifCond .eq 6, 3) := by decide +kernel
theorem d_RB_countOpenRules_35 : decode b_RB_countOpenRules 35 = .ok (.iinc 3 1, 3) := by decide +kernel
theorem d_RB_countOpenRules_38 : decode b_RB_countOpenRules 38 = .ok (.iinc 4 1, 3) := by decide +kernel
theorem d_RB_countOpenRules_41 : decode b_RB_countOpenRules 41 = .ok (.goto (-36), 3) := by decide +kernel
theorem d_RB_countOpenRules_44 : decode b_RB_countOpenRules 44 = .ok (.iload_n 3, 1) := by decide +kernel
theorem d_RB_countOpenRules_45 : decode b_RB_countOpenRules 45 = .ok (.ireturn, 1) := by decide +kernel
theorem d_RB_hasOpenBeside_0 : decode b_RB_hasOpenBeside 0 = .ok (.iconst 0, 1) := by decide +kernel
theorem d_RB_hasOpenBeside_1 : decode b_RB_hasOpenBeside 1 = .ok (.istore 4, 2) := by decide +kernel
theorem d_RB_hasOpenBeside_3 : decode b_RB_hasOpenBeside 3 = .ok (.iload 4, 2) := by decide +kernel
theorem d_RB_hasOpenBeside_5 : decode b_RB_hasOpenBeside 5 = .ok (.aload_n 0, 1) := by decide +kernel
theorem d_RB_hasOpenBeside_6 : decode b_RB_hasOpenBeside 6 = .ok (.iload_n 1, 1) := by decide +kernel
theorem d_RB_hasOpenBeside_7 : decode b_RB_hasOpenBeside 7 = .ok (.invokevirtual 32, 3) := by decide +kernel
theorem d_RB_hasOpenBeside_10 : decode b_RB_hasOpenBeside 10 = .ok (.if_icmp .ge 40, 3) := by decide +kernel
theorem d_RB_hasOpenBeside_13 : decode b_RB_hasOpenBeside 13 = .ok (.aload_n 0, 1) := by decide +kernel
theorem d_RB_hasOpenBeside_14 : decode b_RB_hasOpenBeside 14 = .ok (.getfield 26, 3) := by decide +kernel
theorem d_RB_hasOpenBeside_17 : decode b_RB_hasOpenBeside 17 = .ok (.iload_n 1, 1) := by decide +kernel
theorem d_RB_hasOpenBeside_18 : decode b_RB_hasOpenBeside 18 = .ok (.iconst 3, 1) := by decide +kernel
theorem d_RB_hasOpenBeside_19 : decode b_RB_hasOpenBeside 19 = .ok (.imul, 1) := by decide +kernel
theorem d_RB_hasOpenBeside_20 : decode b_RB_hasOpenBeside 20 = .ok (.iload 4, 2) := by decide +kernel
theorem d_RB_hasOpenBeside_22 : decode b_RB_hasOpenBeside 22 = .ok (.iadd, 1) := by decide +kernel
theorem d_RB_hasOpenBeside_23 : decode b_RB_hasOpenBeside 23 = .ok (.iaload, 1) := by decide +kernel
theorem d_RB_hasOpenBeside_24 : decode b_RB_hasOpenBeside 24 = .ok (.istore 5, 2) := by decide +kernel
theorem d_RB_hasOpenBeside_26 : decode b_RB_hasOpenBeside 26 = .ok (.iload 5, 2) := by decide +kernel
theorem d_RB_hasOpenBeside_28 : decode b_RB_hasOpenBeside 28 = .ok (.iload_n 2, 1) := by decide +kernel
theorem d_RB_hasOpenBeside_29 : decode b_RB_hasOpenBeside 29 = .ok (.if_icmp .eq 15, 3) := by decide +kernel
theorem d_RB_hasOpenBeside_32 : decode b_RB_hasOpenBeside 32 = .ok (.aload_n 3, 1) := by decide +kernel
theorem d_RB_hasOpenBeside_33 : decode b_RB_hasOpenBeside 33 = .ok (.iload 5, 2) := by decide +kernel
theorem d_RB_hasOpenBeside_35 : decode b_RB_hasOpenBeside 35 = .ok (.iaload, 1) := by decide +kernel
theorem d_RB_hasOpenBeside_36 : decode b_RB_hasOpenBeside 36 = .ok (.invokestatic 44, 3) := by decide +kernel
theorem d_RB_hasOpenBeside_39 : decode b_RB_hasOpenBeside 39 = .ok (.ifCond .eq 5, 3) := by decide +kernel
theorem d_RB_hasOpenBeside_42 : decode b_RB_hasOpenBeside 42 = .ok (.iconst 1, 1) := by decide +kernel
theorem d_RB_hasOpenBeside_43 : decode b_RB_hasOpenBeside 43 = .ok (.ireturn, 1) := by decide +kernel
theorem d_RB_hasOpenBeside_44 : decode b_RB_hasOpenBeside 44 = .ok (.iinc 4 1, 3) := by decide +kernel
theorem d_RB_hasOpenBeside_47 : decode b_RB_hasOpenBeside 47 = .ok (.goto (-44), 3) := by decide +kernel
theorem d_RB_hasOpenBeside_50 : decode b_RB_hasOpenBeside 50 = .ok (.iconst 0, 1) := by decide +kernel
theorem d_RB_hasOpenBeside_51 : decode b_RB_hasOpenBeside 51 = .ok (.ireturn, 1) := by decide +kernel
theorem d_RB_narrow_0 : decode b_RB_narrow 0 = .ok (.iconst 1, 1) := by decide +kernel
theorem d_RB_narrow_1 : decode b_RB_narrow 1 = .ok (.istore_n 2, 1) := by decide +kernel
theorem d_RB_narrow_2 : decode b_RB_narrow 2 = .ok (.iconst 0, 1) := by decide +kernel
theorem d_RB_narrow_3 : decode b_RB_narrow 3 = .ok (.istore_n 3, 1) := by decide +kernel
theorem d_RB_narrow_4 : decode b_RB_narrow 4 = .ok (.iload_n 2, 1) := by decide +kernel
theorem d_RB_narrow_5 : decode b_RB_narrow 5 = .ok (.ifCond .eq 113, 3) := by decide +kernel
theorem d_RB_narrow_8 : decode b_RB_narrow 8 = .ok (.iload_n 3, 1) := by decide +kernel
theorem d_RB_narrow_9 : decode b_RB_narrow 9 = .ok (.sipush 129, 3) := by decide +kernel
theorem d_RB_narrow_12 : decode b_RB_narrow 12 = .ok (.if_icmp .ge 106, 3) := by decide +kernel
theorem d_RB_narrow_15 : decode b_RB_narrow 15 = .ok (.iconst 0, 1) := by decide +kernel
theorem d_RB_narrow_16 : decode b_RB_narrow 16 = .ok (.istore_n 2, 1) := by decide +kernel
theorem d_RB_narrow_17 : decode b_RB_narrow 17 = .ok (.iconst 0, 1) := by decide +kernel
theorem d_RB_narrow_18 : decode b_RB_narrow 18 = .ok (.istore 4, 2) := by decide +kernel
theorem d_RB_narrow_20 : decode b_RB_narrow 20 = .ok (.iload 4, 2) := by decide +kernel
theorem d_RB_narrow_22 : decode b_RB_narrow 22 = .ok (.aload_n 0, 1) := by decide +kernel
theorem d_RB_narrow_23 : decode b_RB_narrow 23 = .ok (.getfield 18, 3) := by decide +kernel
theorem d_RB_narrow_26 : decode b_RB_narrow 26 = .ok (.if_icmp .ge 86, 3) := by decide +kernel
theorem d_RB_narrow_29 : decode b_RB_narrow 29 = .ok (.iconst 0, 1) := by decide +kernel
theorem d_RB_narrow_30 : decode b_RB_narrow 30 = .ok (.istore 5, 2) := by decide +kernel
theorem d_RB_narrow_32 : decode b_RB_narrow 32 = .ok (.iload 5, 2) := by decide +kernel
theorem d_RB_narrow_34 : decode b_RB_narrow 34 = .ok (.aload_n 0, 1) := by decide +kernel
theorem d_RB_narrow_35 : decode b_RB_narrow 35 = .ok (.iload 4, 2) := by decide +kernel
theorem d_RB_narrow_37 : decode b_RB_narrow 37 = .ok (.invokevirtual 32, 3) := by decide +kernel
theorem d_RB_narrow_40 : decode b_RB_narrow 40 = .ok (.if_icmp .ge 66, 3) := by decide +kernel
theorem d_RB_narrow_43 : decode b_RB_narrow 43 = .ok (.aload_n 0, 1) := by decide +kernel
theorem d_RB_narrow_44 : decode b_RB_narrow 44 = .ok (.getfield 26, 3) := by decide +kernel
theorem d_RB_narrow_47 : decode b_RB_narrow 47 = .ok (.iload 4, 2) := by decide +kernel
theorem d_RB_narrow_49 : decode b_RB_narrow 49 = .ok (.iconst 3, 1) := by decide +kernel
theorem d_RB_narrow_50 : decode b_RB_narrow 50 = .ok (.imul, 1) := by decide +kernel
theorem d_RB_narrow_51 : decode b_RB_narrow 51 = .ok (.iload 5, 2) := by decide +kernel
theorem d_RB_narrow_53 : decode b_RB_narrow 53 = .ok (.iadd, 1) := by decide +kernel
theorem d_RB_narrow_54 : decode b_RB_narrow 54 = .ok (.iaload, 1) := by decide +kernel
theorem d_RB_narrow_55 : decode b_RB_narrow 55 = .ok (.istore 6, 2) := by decide +kernel
theorem d_RB_narrow_57 : decode b_RB_narrow 57 = .ok (.aload_n 0, 1) := by decide +kernel
theorem d_RB_narrow_58 : decode b_RB_narrow 58 = .ok (.iload 4, 2) := by decide +kernel
theorem d_RB_narrow_60 : decode b_RB_narrow 60 = .ok (.iload 5, 2) := by decide +kernel
theorem d_RB_narrow_62 : decode b_RB_narrow 62 = .ok (.aload_n 1, 1) := by decide +kernel
theorem d_RB_narrow_63 : decode b_RB_narrow 63 = .ok (.invokevirtual 48, 3) := by decide +kernel
theorem d_RB_narrow_66 : decode b_RB_narrow 66 = .ok (.istore 7, 2) := by decide +kernel
theorem d_RB_narrow_68 : decode b_RB_narrow 68 = .ok (.iload 7, 2) := by decide +kernel
theorem d_RB_narrow_70 : decode b_RB_narrow 70 = .ok (.ifCond .ne 5, 3) := by decide +kernel
theorem d_RB_narrow_73 : decode b_RB_narrow 73 = .ok (.iconst 0, 1) := by decide +kernel
theorem d_RB_narrow_74 : decode b_RB_narrow 74 = .ok (.ireturn, 1) := by decide +kernel
theorem d_RB_narrow_75 : decode b_RB_narrow 75 = .ok (.iload_n 2, 1) := by decide +kernel
theorem d_RB_narrow_76 : decode b_RB_narrow 76 = .ok (.ifCond .ne 12, 3) := by decide +kernel
theorem d_RB_narrow_79 : decode b_RB_narrow 79 = .ok (.iload 7, 2) := by decide +kernel
theorem d_RB_narrow_81 : decode b_RB_narrow 81 = .ok (.aload_n 1, 1) := by decide +kernel
theorem d_RB_narrow_82 : decode b_RB_narrow 82 = .ok (.iload 6, 2) := by decide +kernel
theorem d_RB_narrow_84 : decode b_RB_narrow 84 = .ok (.iaload, 1) := by decide +kernel
theorem d_RB_narrow_85 : decode b_RB_narrow 85 = .ok (.if_icmp .eq 7, 3) := by decide +kernel
theorem d_RB_narrow_88 : decode b_RB_narrow 88 = .ok (.iconst 1, 1) := by decide +kernel
theorem d_RB_narrow_89 : decode b_RB_narrow 89 = .ok (.goto 4, 3) := by decide +kernel
theorem d_RB_narrow_92 : decode b_RB_narrow 92 = .ok (.iconst 0, 1) := by decide +kernel
theorem d_RB_narrow_93 : decode b_RB_narrow 93 = .ok (.istore_n 2, 1) := by decide +kernel
theorem d_RB_narrow_94 : decode b_RB_narrow 94 = .ok (.aload_n 1, 1) := by decide +kernel
theorem d_RB_narrow_95 : decode b_RB_narrow 95 = .ok (.iload 6, 2) := by decide +kernel
theorem d_RB_narrow_97 : decode b_RB_narrow 97 = .ok (.iload 7, 2) := by decide +kernel
theorem d_RB_narrow_99 : decode b_RB_narrow 99 = .ok (.iastore, 1) := by decide +kernel
theorem d_RB_narrow_100 : decode b_RB_narrow 100 = .ok (.iinc 5 1, 3) := by decide +kernel
theorem d_RB_narrow_103 : decode b_RB_narrow 103 = .ok (.goto (-71), 3) := by decide +kernel
theorem d_RB_narrow_106 : decode b_RB_narrow 106 = .ok (.iinc 4 1, 3) := by decide +kernel
theorem d_RB_narrow_109 : decode b_RB_narrow 109 = .ok (.goto (-89), 3) := by decide +kernel
theorem d_RB_narrow_112 : decode b_RB_narrow 112 = .ok (.iinc 3 1, 3) := by decide +kernel
theorem d_RB_narrow_115 : decode b_RB_narrow 115 = .ok (.goto (-111), 3) := by decide +kernel
theorem d_RB_narrow_118 : decode b_RB_narrow 118 = .ok (.iconst 1, 1) := by decide +kernel
theorem d_RB_narrow_119 : decode b_RB_narrow 119 = .ok (.ireturn, 1) := by decide +kernel
theorem d_RB_supportedAt_0 : decode b_RB_supportedAt 0 = .ok (.aload_n 0, 1) := by decide +kernel
theorem d_RB_supportedAt_1 : decode b_RB_supportedAt 1 = .ok (.iload_n 1, 1) := by decide +kernel
theorem d_RB_supportedAt_2 : decode b_RB_supportedAt 2 = .ok (.iload_n 2, 1) := by decide +kernel
theorem d_RB_supportedAt_3 : decode b_RB_supportedAt 3 = .ok (.aload_n 3, 1) := by decide +kernel
theorem d_RB_supportedAt_4 : decode b_RB_supportedAt 4 = .ok (.invokevirtual 52, 3) := by decide +kernel
theorem d_RB_supportedAt_7 : decode b_RB_supportedAt 7 = .ok (.istore 4, 2) := by decide +kernel
theorem d_RB_supportedAt_9 : decode b_RB_supportedAt 9 = .ok (.aload_n 0, 1) := by decide +kernel
theorem d_RB_supportedAt_10 : decode b_RB_supportedAt 10 = .ok (.getfield 22, 3) := by decide +kernel
theorem d_RB_supportedAt_13 : decode b_RB_supportedAt 13 = .ok (.iload_n 1, 1) := by decide +kernel
theorem d_RB_supportedAt_14 : decode b_RB_supportedAt 14 = .ok (.iaload, 1) := by decide +kernel
theorem d_RB_supportedAt_15 : decode b_RB_supportedAt 15 = .ok (.iconst 3, 1) := by decide +kernel
theorem d_RB_supportedAt_16 : decode b_RB_supportedAt 16 = .ok (.if_icmp .ne 46, 3) := by decide +kernel
theorem d_RB_supportedAt_19 : decode b_RB_supportedAt 19 = .ok (.aload_n 0, 1) := by decide +kernel
theorem d_RB_supportedAt_20 : decode b_RB_supportedAt 20 = .ok (.iload_n 1, 1) := by decide +kernel
theorem d_RB_supportedAt_21 : decode b_RB_supportedAt 21 = .ok (.iload_n 2, 1) := by decide +kernel
theorem d_RB_supportedAt_22 : decode b_RB_supportedAt 22 = .ok (.iconst 1, 1) := by decide +kernel
theorem d_RB_supportedAt_23 : decode b_RB_supportedAt 23 = .ok (.iadd, 1) := by decide +kernel
theorem d_RB_supportedAt_24 : decode b_RB_supportedAt 24 = .ok (.aload_n 3, 1) := by decide +kernel
theorem d_RB_supportedAt_25 : decode b_RB_supportedAt 25 = .ok (.invokevirtual 52, 3) := by decide +kernel
theorem d_RB_supportedAt_28 : decode b_RB_supportedAt 28 = .ok (.istore 5, 2) := by decide +kernel
theorem d_RB_supportedAt_30 : decode b_RB_supportedAt 30 = .ok (.aload_n 0, 1) := by decide +kernel
theorem d_RB_supportedAt_31 : decode b_RB_supportedAt 31 = .ok (.iload_n 1, 1) := by decide +kernel
theorem d_RB_supportedAt_32 : decode b_RB_supportedAt 32 = .ok (.iload_n 2, 1) := by decide +kernel
theorem d_RB_supportedAt_33 : decode b_RB_supportedAt 33 = .ok (.iconst 2, 1) := by decide +kernel
theorem d_RB_supportedAt_34 : decode b_RB_supportedAt 34 = .ok (.iadd, 1) := by decide +kernel
theorem d_RB_supportedAt_35 : decode b_RB_supportedAt 35 = .ok (.aload_n 3, 1) := by decide +kernel
theorem d_RB_supportedAt_36 : decode b_RB_supportedAt 36 = .ok (.invokevirtual 52, 3) := by decide +kernel
theorem d_RB_supportedAt_39 : decode b_RB_supportedAt 39 = .ok (.istore 6, 2) := by decide +kernel
theorem d_RB_supportedAt_41 : decode b_RB_supportedAt 41 = .ok (.aload_n 0, 1) := by decide +kernel
theorem d_RB_supportedAt_42 : decode b_RB_supportedAt 42 = .ok (.getfield 12, 3) := by decide +kernel
theorem d_RB_supportedAt_45 : decode b_RB_supportedAt 45 = .ok (.aload_n 0, 1) := by decide +kernel
theorem d_RB_supportedAt_46 : decode b_RB_supportedAt 46 = .ok (.getfield 29, 3) := by decide +kernel
theorem d_RB_supportedAt_49 : decode b_RB_supportedAt 49 = .ok (.iload_n 1, 1) := by decide +kernel
theorem d_RB_supportedAt_50 : decode b_RB_supportedAt 50 = .ok (.iaload, 1) := by decide +kernel
theorem d_RB_supportedAt_51 : decode b_RB_supportedAt 51 = .ok (.iload_n 2, 1) := by decide +kernel
theorem d_RB_supportedAt_52 : decode b_RB_supportedAt 52 = .ok (.iload 4, 2) := by decide +kernel
theorem d_RB_supportedAt_54 : decode b_RB_supportedAt 54 = .ok (.iload 5, 2) := by decide +kernel
theorem d_RB_supportedAt_56 : decode b_RB_supportedAt 56 = .ok (.iload 6, 2) := by decide +kernel
theorem d_RB_supportedAt_58 : decode b_RB_supportedAt 58 = .ok (.invokevirtual 55, 3) := by decide +kernel
theorem d_RB_supportedAt_61 : decode b_RB_supportedAt 61 = .ok (.ireturn, 1) := by decide +kernel
theorem d_RB_supportedAt_62 : decode b_RB_supportedAt 62 = .ok (.iconst 0, 1) := by decide +kernel
theorem d_RB_supportedAt_63 : decode b_RB_supportedAt 63 = .ok (.istore 5, 2) := by decide +kernel
theorem d_RB_supportedAt_65 : decode b_RB_supportedAt 65 = .ok (.iconst 0, 1) := by decide +kernel
theorem d_RB_supportedAt_66 : decode b_RB_supportedAt 66 = .ok (.istore 6, 2) := by decide +kernel
theorem d_RB_supportedAt_68 : decode b_RB_supportedAt 68 = .ok (.iload 6, 2) := by decide +kernel
theorem d_RB_supportedAt_70 : decode b_RB_supportedAt 70 = .ok (.bipush 16, 2) := by decide +kernel
theorem d_RB_supportedAt_72 : decode b_RB_supportedAt 72 = .ok (.if_icmp .ge 40, 3) := by decide +kernel
theorem d_RB_supportedAt_75 : decode b_RB_supportedAt 75 = .ok (.iload 4, 2) := by decide +kernel
theorem d_RB_supportedAt_77 : decode b_RB_supportedAt 77 = .ok (.iload 6, 2) := by decide +kernel
theorem d_RB_supportedAt_79 : decode b_RB_supportedAt 79 = .ok (.invokestatic 58, 3) := by decide +kernel
theorem d_RB_supportedAt_82 : decode b_RB_supportedAt 82 = .ok (.ifCond .eq 24, 3) := by decide +kernel
theorem d_RB_supportedAt_85 : decode b_RB_supportedAt 85 = .ok (.aload_n 0, 1) := by decide +kernel
theorem d_RB_supportedAt_86 : decode b_RB_supportedAt 86 = .ok (.iload_n 1, 1) := by decide +kernel
theorem d_RB_supportedAt_87 : decode b_RB_supportedAt 87 = .ok (.iload_n 2, 1) := by decide +kernel
theorem d_RB_supportedAt_88 : decode b_RB_supportedAt 88 = .ok (.iload 6, 2) := by decide +kernel
theorem d_RB_supportedAt_90 : decode b_RB_supportedAt 90 = .ok (.aload_n 3, 1) := by decide +kernel
theorem d_RB_supportedAt_91 : decode b_RB_supportedAt 91 = .ok (.invokevirtual 62, 3) := by decide +kernel
theorem d_RB_supportedAt_94 : decode b_RB_supportedAt 94 = .ok (.ifCond .le 12, 3) := by decide +kernel
theorem d_RB_supportedAt_97 : decode b_RB_supportedAt 97 = .ok (.iload 5, 2) := by decide +kernel
theorem d_RB_supportedAt_99 : decode b_RB_supportedAt 99 = .ok (.iconst 1, 1) := by decide +kernel
theorem d_RB_supportedAt_100 : decode b_RB_supportedAt 100 = .ok (.iload 6, 2) := by decide +kernel
theorem d_RB_supportedAt_102 : decode b_RB_supportedAt 102 = .ok (.ishl, 1) := by decide +kernel
theorem d_RB_supportedAt_103 : decode b_RB_supportedAt 103 = .ok (.ior, 1) := by decide +kernel
theorem d_RB_supportedAt_104 : decode b_RB_supportedAt 104 = .ok (.istore 5, 2) := by decide +kernel
theorem d_RB_supportedAt_106 : decode b_RB_supportedAt 106 = .ok (.iinc 6 1, 3) := by decide +kernel
theorem d_RB_supportedAt_109 : decode b_RB_supportedAt 109 = .ok (.goto (-41), 3) := by decide +kernel
theorem d_RB_supportedAt_112 : decode b_RB_supportedAt 112 = .ok (.iload 5, 2) := by decide +kernel
theorem d_RB_supportedAt_114 : decode b_RB_supportedAt 114 = .ok (.ireturn, 1) := by decide +kernel
theorem d_RB_ways_0 : decode b_RB_ways 0 = .ok (.aload_n 0, 1) := by decide +kernel
theorem d_RB_ways_1 : decode b_RB_ways 1 = .ok (.iload_n 1, 1) := by decide +kernel
theorem d_RB_ways_2 : decode b_RB_ways 2 = .ok (.iload_n 2, 1) := by decide +kernel
theorem d_RB_ways_3 : decode b_RB_ways 3 = .ok (.iconst 1, 1) := by decide +kernel
theorem d_RB_ways_4 : decode b_RB_ways 4 = .ok (.iadd, 1) := by decide +kernel
theorem d_RB_ways_5 : decode b_RB_ways 5 = .ok (.aload 4, 2) := by decide +kernel
theorem d_RB_ways_7 : decode b_RB_ways 7 = .ok (.invokevirtual 52, 3) := by decide +kernel
theorem d_RB_ways_10 : decode b_RB_ways 10 = .ok (.istore 5, 2) := by decide +kernel
theorem d_RB_ways_12 : decode b_RB_ways 12 = .ok (.aload_n 0, 1) := by decide +kernel
theorem d_RB_ways_13 : decode b_RB_ways 13 = .ok (.iload_n 1, 1) := by decide +kernel
theorem d_RB_ways_14 : decode b_RB_ways 14 = .ok (.invokevirtual 32, 3) := by decide +kernel
theorem d_RB_ways_17 : decode b_RB_ways 17 = .ok (.iconst 2, 1) := by decide +kernel
theorem d_RB_ways_18 : decode b_RB_ways 18 = .ok (.if_icmp .ne 17, 3) := by decide +kernel
theorem d_RB_ways_21 : decode b_RB_ways 21 = .ok (.aload_n 0, 1) := by decide +kernel
theorem d_RB_ways_22 : decode b_RB_ways 22 = .ok (.iload_n 1, 1) := by decide +kernel
theorem d_RB_ways_23 : decode b_RB_ways 23 = .ok (.iload_n 2, 1) := by decide +kernel
theorem d_RB_ways_24 : decode b_RB_ways 24 = .ok (.iload_n 3, 1) := by decide +kernel
theorem d_RB_ways_25 : decode b_RB_ways 25 = .ok (.invokevirtual 66, 3) := by decide +kernel
theorem d_RB_ways_28 : decode b_RB_ways 28 = .ok (.iload 5, 2) := by decide +kernel
theorem d_RB_ways_30 : decode b_RB_ways 30 = .ok (.iand, 1) := by decide +kernel
theorem d_RB_ways_31 : decode b_RB_ways 31 = .ok (.invokestatic 70, 3) := by decide +kernel
theorem d_RB_ways_34 : decode b_RB_ways 34 = .ok (.ireturn, 1) := by decide +kernel
theorem d_RB_ways_35 : decode b_RB_ways 35 = .ok (.aload_n 0, 1) := by decide +kernel
theorem d_RB_ways_36 : decode b_RB_ways 36 = .ok (.iload_n 1, 1) := by decide +kernel
theorem d_RB_ways_37 : decode b_RB_ways 37 = .ok (.iload_n 2, 1) := by decide +kernel
theorem d_RB_ways_38 : decode b_RB_ways 38 = .ok (.iconst 2, 1) := by decide +kernel
theorem d_RB_ways_39 : decode b_RB_ways 39 = .ok (.iadd, 1) := by decide +kernel
theorem d_RB_ways_40 : decode b_RB_ways 40 = .ok (.aload 4, 2) := by decide +kernel
theorem d_RB_ways_42 : decode b_RB_ways 42 = .ok (.invokevirtual 52, 3) := by decide +kernel
theorem d_RB_ways_45 : decode b_RB_ways 45 = .ok (.istore 6, 2) := by decide +kernel
theorem d_RB_ways_47 : decode b_RB_ways 47 = .ok (.aload_n 0, 1) := by decide +kernel
theorem d_RB_ways_48 : decode b_RB_ways 48 = .ok (.getfield 22, 3) := by decide +kernel
theorem d_RB_ways_51 : decode b_RB_ways 51 = .ok (.iload_n 1, 1) := by decide +kernel
theorem d_RB_ways_52 : decode b_RB_ways 52 = .ok (.iaload, 1) := by decide +kernel
theorem d_RB_ways_53 : decode b_RB_ways 53 = .ok (.iconst 2, 1) := by decide +kernel
theorem d_RB_ways_54 : decode b_RB_ways 54 = .ok (.if_icmp .ne 19, 3) := by decide +kernel
theorem d_RB_ways_57 : decode b_RB_ways 57 = .ok (.aload_n 0, 1) := by decide +kernel
theorem d_RB_ways_58 : decode b_RB_ways 58 = .ok (.getfield 29, 3) := by decide +kernel
theorem d_RB_ways_61 : decode b_RB_ways 61 = .ok (.iload_n 1, 1) := by decide +kernel
theorem d_RB_ways_62 : decode b_RB_ways 62 = .ok (.iaload, 1) := by decide +kernel
theorem d_RB_ways_63 : decode b_RB_ways 63 = .ok (.iload_n 3, 1) := by decide +kernel
theorem d_RB_ways_64 : decode b_RB_ways 64 = .ok (.isub, 1) := by decide +kernel
theorem d_RB_ways_65 : decode b_RB_ways 65 = .ok (.iload 5, 2) := by decide +kernel
theorem d_RB_ways_67 : decode b_RB_ways 67 = .ok (.iload 6, 2) := by decide +kernel
theorem d_RB_ways_69 : decode b_RB_ways 69 = .ok (.invokestatic 75, 3) := by decide +kernel
theorem d_RB_ways_72 : decode b_RB_ways 72 = .ok (.ireturn, 1) := by decide +kernel
theorem d_RB_ways_73 : decode b_RB_ways 73 = .ok (.aload_n 0, 1) := by decide +kernel
theorem d_RB_ways_74 : decode b_RB_ways 74 = .ok (.getfield 12, 3) := by decide +kernel
theorem d_RB_ways_77 : decode b_RB_ways 77 = .ok (.aload_n 0, 1) := by decide +kernel
theorem d_RB_ways_78 : decode b_RB_ways 78 = .ok (.getfield 29, 3) := by decide +kernel
theorem d_RB_ways_81 : decode b_RB_ways 81 = .ok (.iload_n 1, 1) := by decide +kernel
theorem d_RB_ways_82 : decode b_RB_ways 82 = .ok (.iaload, 1) := by decide +kernel
theorem d_RB_ways_83 : decode b_RB_ways 83 = .ok (.iload_n 2, 1) := by decide +kernel
theorem d_RB_ways_84 : decode b_RB_ways 84 = .ok (.iload_n 3, 1) := by decide +kernel
theorem d_RB_ways_85 : decode b_RB_ways 85 = .ok (.iload 5, 2) := by decide +kernel
theorem d_RB_ways_87 : decode b_RB_ways 87 = .ok (.iload 6, 2) := by decide +kernel
theorem d_RB_ways_89 : decode b_RB_ways 89 = .ok (.invokevirtual 78, 3) := by decide +kernel
theorem d_RB_ways_92 : decode b_RB_ways 92 = .ok (.ireturn, 1) := by decide +kernel
theorem d_RB_partners_0 : decode b_RB_partners 0 = .ok (.iload_n 2, 1) := by decide +kernel
theorem d_RB_partners_1 : decode b_RB_partners 1 = .ok (.ifCond .ne 14, 3) := by decide +kernel
theorem d_RB_partners_4 : decode b_RB_partners 4 = .ok (.iload_n 3, 1) := by decide +kernel
theorem d_RB_partners_5 : decode b_RB_partners 5 = .ok (.aload_n 0, 1) := by decide +kernel
theorem d_RB_partners_6 : decode b_RB_partners 6 = .ok (.getfield 29, 3) := by decide +kernel
theorem d_RB_partners_9 : decode b_RB_partners 9 = .ok (.iload_n 1, 1) := by decide +kernel
theorem d_RB_partners_10 : decode b_RB_partners 10 = .ok (.iaload, 1) := by decide +kernel
theorem d_RB_partners_11 : decode b_RB_partners 11 = .ok (.isub, 1) := by decide +kernel
theorem d_RB_partners_12 : decode b_RB_partners 12 = .ok (.goto 11, 3) := by decide +kernel
theorem d_RB_partners_15 : decode b_RB_partners 15 = .ok (.iload_n 3, 1) := by decide +kernel
theorem d_RB_partners_16 : decode b_RB_partners 16 = .ok (.aload_n 0, 1) := by decide +kernel
theorem d_RB_partners_17 : decode b_RB_partners 17 = .ok (.getfield 29, 3) := by decide +kernel
theorem d_RB_partners_20 : decode b_RB_partners 20 = .ok (.iload_n 1, 1) := by decide +kernel
theorem d_RB_partners_21 : decode b_RB_partners 21 = .ok (.iaload, 1) := by decide +kernel
theorem d_RB_partners_22 : decode b_RB_partners 22 = .ok (.iadd, 1) := by decide +kernel
theorem d_RB_partners_23 : decode b_RB_partners 23 = .ok (.istore 4, 2) := by decide +kernel
theorem d_RB_partners_25 : decode b_RB_partners 25 = .ok (.iload 4, 2) := by decide +kernel
theorem d_RB_partners_27 : decode b_RB_partners 27 = .ok (.invokestatic 81, 3) := by decide +kernel
theorem d_RB_partners_30 : decode b_RB_partners 30 = .ok (.istore 5, 2) := by decide +kernel
theorem d_RB_partners_32 : decode b_RB_partners 32 = .ok (.iload 4, 2) := by decide +kernel
theorem d_RB_partners_34 : decode b_RB_partners 34 = .ok (.iconst 1, 1) := by decide +kernel
theorem d_RB_partners_35 : decode b_RB_partners 35 = .ok (.iadd, 1) := by decide +kernel
theorem d_RB_partners_36 : decode b_RB_partners 36 = .ok (.invokestatic 81, 3) := by decide +kernel
theorem d_RB_partners_39 : decode b_RB_partners 39 = .ok (.istore 6, 2) := by decide +kernel
theorem d_RB_partners_41 : decode b_RB_partners 41 = .ok (.aload_n 0, 1) := by decide +kernel
theorem d_RB_partners_42 : decode b_RB_partners 42 = .ok (.getfield 22, 3) := by decide +kernel
theorem d_RB_partners_45 : decode b_RB_partners 45 = .ok (.iload_n 1, 1) := by decide +kernel
theorem d_RB_partners_46 : decode b_RB_partners 46 = .ok (.iaload, 1) := by decide +kernel
theorem d_RB_partners_47 : decode b_RB_partners 47 = .ok (.ifCond .ne 12, 3) := by decide +kernel
theorem d_RB_partners_50 : decode b_RB_partners 50 = .ok (.ldc 84, 2) := by decide +kernel
theorem d_RB_partners_52 : decode b_RB_partners 52 = .ok (.iload 6, 2) := by decide +kernel
theorem d_RB_partners_54 : decode b_RB_partners 54 = .ok (.ixor, 1) := by decide +kernel
theorem d_RB_partners_55 : decode b_RB_partners 55 = .ok (.iload 5, 2) := by decide +kernel
theorem d_RB_partners_57 : decode b_RB_partners 57 = .ok (.ixor, 1) := by decide +kernel
theorem d_RB_partners_58 : decode b_RB_partners 58 = .ok (.ireturn, 1) := by decide +kernel
theorem d_RB_partners_59 : decode b_RB_partners 59 = .ok (.iload_n 2, 1) := by decide +kernel
theorem d_RB_partners_60 : decode b_RB_partners 60 = .ok (.ifCond .ne 8, 3) := by decide +kernel
theorem d_RB_partners_63 : decode b_RB_partners 63 = .ok (.iload 6, 2) := by decide +kernel
theorem d_RB_partners_65 : decode b_RB_partners 65 = .ok (.goto 8, 3) := by decide +kernel
theorem d_RB_partners_68 : decode b_RB_partners 68 = .ok (.ldc 84, 2) := by decide +kernel
theorem d_RB_partners_70 : decode b_RB_partners 70 = .ok (.iload 5, 2) := by decide +kernel
theorem d_RB_partners_72 : decode b_RB_partners 72 = .ok (.ixor, 1) := by decide +kernel
theorem d_RB_partners_73 : decode b_RB_partners 73 = .ok (.ireturn, 1) := by decide +kernel
theorem d_RB_valuesBelow_0 : decode b_RB_valuesBelow 0 = .ok (.iconst 1, 1) := by decide +kernel
theorem d_RB_valuesBelow_1 : decode b_RB_valuesBelow 1 = .ok (.iconst 0, 1) := by decide +kernel
theorem d_RB_valuesBelow_2 : decode b_RB_valuesBelow 2 = .ok (.iload_n 0, 1) := by decide +kernel
theorem d_RB_valuesBelow_3 : decode b_RB_valuesBelow 3 = .ok (.bipush 16, 2) := by decide +kernel
theorem d_RB_valuesBelow_5 : decode b_RB_valuesBelow 5 = .ok (.invokestatic 85, 3) := by decide +kernel
theorem d_RB_valuesBelow_8 : decode b_RB_valuesBelow 8 = .ok (.invokestatic 90, 3) := by decide +kernel
theorem d_RB_valuesBelow_11 : decode b_RB_valuesBelow 11 = .ok (.ishl, 1) := by decide +kernel
theorem d_RB_valuesBelow_12 : decode b_RB_valuesBelow 12 = .ok (.iconst 1, 1) := by decide +kernel
theorem d_RB_valuesBelow_13 : decode b_RB_valuesBelow 13 = .ok (.isub, 1) := by decide +kernel
theorem d_RB_valuesBelow_14 : decode b_RB_valuesBelow 14 = .ok (.ireturn, 1) := by decide +kernel
theorem d_RB_totalWays_0 : decode b_RB_totalWays 0 = .ok (.iconst 0, 1) := by decide +kernel
theorem d_RB_totalWays_1 : decode b_RB_totalWays 1 = .ok (.istore_n 3, 1) := by decide +kernel
theorem d_RB_totalWays_2 : decode b_RB_totalWays 2 = .ok (.iconst 0, 1) := by decide +kernel
theorem d_RB_totalWays_3 : decode b_RB_totalWays 3 = .ok (.istore 4, 2) := by decide +kernel
theorem d_RB_totalWays_5 : decode b_RB_totalWays 5 = .ok (.iload 4, 2) := by decide +kernel
theorem d_RB_totalWays_7 : decode b_RB_totalWays 7 = .ok (.bipush 16, 2) := by decide +kernel
theorem d_RB_totalWays_9 : decode b_RB_totalWays 9 = .ok (.if_icmp .ge 32, 3) := by decide +kernel
theorem d_RB_totalWays_12 : decode b_RB_totalWays 12 = .ok (.iload_n 1, 1) := by decide +kernel
theorem d_RB_totalWays_13 : decode b_RB_totalWays 13 = .ok (.iload 4, 2) := by decide +kernel
theorem d_RB_totalWays_15 : decode b_RB_totalWays 15 = .ok (.invokestatic 58, 3) := by decide +kernel
theorem d_RB_totalWays_18 : decode b_RB_totalWays 18 = .ok (.ifCond .eq 17, 3) := by decide +kernel
theorem d_RB_totalWays_21 : decode b_RB_totalWays 21 = .ok (.iload_n 2, 1) := by decide +kernel
theorem d_RB_totalWays_22 : decode b_RB_totalWays 22 = .ok (.iload_n 0, 1) := by decide +kernel
theorem d_RB_totalWays_23 : decode b_RB_totalWays 23 = .ok (.iload 4, 2) := by decide +kernel
theorem d_RB_totalWays_25 : decode b_RB_totalWays 25 = .ok (.isub, 1) := by decide +kernel
theorem d_RB_totalWays_26 : decode b_RB_totalWays 26 = .ok (.invokestatic 58, 3) := by decide +kernel
theorem d_RB_totalWays_29 : decode b_RB_totalWays 29 = .ok (.ifCond .eq 6, 3) := by decide +kernel
theorem d_RB_totalWays_32 : decode b_RB_totalWays 32 = .ok (.iinc 3 1, 3) := by decide +kernel
theorem d_RB_totalWays_35 : decode b_RB_totalWays 35 = .ok (.iinc 4 1, 3) := by decide +kernel
theorem d_RB_totalWays_38 : decode b_RB_totalWays 38 = .ok (.goto (-33), 3) := by decide +kernel
theorem d_RB_totalWays_41 : decode b_RB_totalWays 41 = .ok (.iload_n 3, 1) := by decide +kernel
theorem d_RB_totalWays_42 : decode b_RB_totalWays 42 = .ok (.ireturn, 1) := by decide +kernel
theorem d_RB_domainAt_0 : decode b_RB_domainAt 0 = .ok (.aload_n 3, 1) := by decide +kernel
theorem d_RB_domainAt_1 : decode b_RB_domainAt 1 = .ok (.aload_n 0, 1) := by decide +kernel
theorem d_RB_domainAt_2 : decode b_RB_domainAt 2 = .ok (.getfield 26, 3) := by decide +kernel
theorem d_RB_domainAt_5 : decode b_RB_domainAt 5 = .ok (.iload_n 1, 1) := by decide +kernel
theorem d_RB_domainAt_6 : decode b_RB_domainAt 6 = .ok (.iconst 3, 1) := by decide +kernel
theorem d_RB_domainAt_7 : decode b_RB_domainAt 7 = .ok (.imul, 1) := by decide +kernel
theorem d_RB_domainAt_8 : decode b_RB_domainAt 8 = .ok (.iload_n 2, 1) := by decide +kernel
theorem d_RB_domainAt_9 : decode b_RB_domainAt 9 = .ok (.aload_n 0, 1) := by decide +kernel
theorem d_RB_domainAt_10 : decode b_RB_domainAt 10 = .ok (.iload_n 1, 1) := by decide +kernel
theorem d_RB_domainAt_11 : decode b_RB_domainAt 11 = .ok (.invokevirtual 32, 3) := by decide +kernel
theorem d_RB_domainAt_14 : decode b_RB_domainAt 14 = .ok (.irem, 1) := by decide +kernel
theorem d_RB_domainAt_15 : decode b_RB_domainAt 15 = .ok (.iadd, 1) := by decide +kernel
theorem d_RB_domainAt_16 : decode b_RB_domainAt 16 = .ok (.iaload, 1) := by decide +kernel
theorem d_RB_domainAt_17 : decode b_RB_domainAt 17 = .ok (.iaload, 1) := by decide +kernel
theorem d_RB_domainAt_18 : decode b_RB_domainAt 18 = .ok (.ireturn, 1) := by decide +kernel
theorem d_RB_width_0 : decode b_RB_width 0 = .ok (.aload_n 0, 1) := by decide +kernel
theorem d_RB_width_1 : decode b_RB_width 1 = .ok (.getfield 22, 3) := by decide +kernel
theorem d_RB_width_4 : decode b_RB_width 4 = .ok (.iload_n 1, 1) := by decide +kernel
theorem d_RB_width_5 : decode b_RB_width 5 = .ok (.iaload, 1) := by decide +kernel
theorem d_RB_width_6 : decode b_RB_width 6 = .ok (.ifCond .eq 13, 3) := by decide +kernel
theorem d_RB_width_9 : decode b_RB_width 9 = .ok (.aload_n 0, 1) := by decide +kernel
theorem d_RB_width_10 : decode b_RB_width 10 = .ok (.getfield 22, 3) := by decide +kernel
theorem d_RB_width_13 : decode b_RB_width 13 = .ok (.iload_n 1, 1) := by decide +kernel
theorem d_RB_width_14 : decode b_RB_width 14 = .ok (.iaload, 1) := by decide +kernel
theorem d_RB_width_15 : decode b_RB_width 15 = .ok (.iconst 1, 1) := by decide +kernel
theorem d_RB_width_16 : decode b_RB_width 16 = .ok (.if_icmp .ne 7, 3) := by decide +kernel
theorem d_RB_width_19 : decode b_RB_width 19 = .ok (.iconst 2, 1) := by decide +kernel
theorem d_RB_width_20 : decode b_RB_width 20 = .ok (.goto 4, 3) := by decide +kernel
theorem d_RB_width_23 : decode b_RB_width 23 = .ok (.iconst 3, 1) := by decide +kernel
theorem d_RB_width_24 : decode b_RB_width 24 = .ok (.ireturn, 1) := by decide +kernel
theorem d_TR_init_0 : decode b_TR_init 0 = .ok (.aload_n 0, 1) := by decide +kernel
theorem d_TR_init_1 : decode b_TR_init 1 = .ok (.invokespecial 3, 3) := by decide +kernel
theorem d_TR_init_4 : decode b_TR_init 4 = .ok (.aload_n 0, 1) := by decide +kernel
theorem d_TR_init_5 : decode b_TR_init 5 = .ok (.iconst 0, 1) := by decide +kernel
theorem d_TR_init_6 : decode b_TR_init 6 = .ok (.putfield 9, 3) := by decide +kernel
theorem d_TR_init_9 : decode b_TR_init 9 = .ok (.aload_n 0, 1) := by decide +kernel
theorem d_TR_init_10 : decode b_TR_init 10 = .ok (.bipush 80, 2) := by decide +kernel
theorem d_TR_init_12 : decode b_TR_init 12 = .ok (.newarray .int, 2) := by decide +kernel
theorem d_TR_init_14 : decode b_TR_init 14 = .ok (.putfield 15, 3) := by decide +kernel
theorem d_TR_init_17 : decode b_TR_init 17 = .ok (.aload_n 0, 1) := by decide +kernel
theorem d_TR_init_18 : decode b_TR_init 18 = .ok (.bipush 10, 2) := by decide +kernel
theorem d_TR_init_20 : decode b_TR_init 20 = .ok (.newarray .int, 2) := by decide +kernel
theorem d_TR_init_22 : decode b_TR_init 22 = .ok (.putfield 19, 3) := by decide +kernel
theorem d_TR_init_25 : decode b_TR_init 25 = .ok (.return_, 1) := by decide +kernel
theorem d_TR_save_0 : decode b_TR_save 0 = .ok (.aload_n 1, 1) := by decide +kernel
theorem d_TR_save_1 : decode b_TR_save 1 = .ok (.iconst 0, 1) := by decide +kernel
theorem d_TR_save_2 : decode b_TR_save 2 = .ok (.aload_n 0, 1) := by decide +kernel
theorem d_TR_save_3 : decode b_TR_save 3 = .ok (.getfield 15, 3) := by decide +kernel
theorem d_TR_save_6 : decode b_TR_save 6 = .ok (.aload_n 0, 1) := by decide +kernel
theorem d_TR_save_7 : decode b_TR_save 7 = .ok (.getfield 9, 3) := by decide +kernel
theorem d_TR_save_10 : decode b_TR_save 10 = .ok (.bipush 8, 2) := by decide +kernel
theorem d_TR_save_12 : decode b_TR_save 12 = .ok (.imul, 1) := by decide +kernel
theorem d_TR_save_13 : decode b_TR_save 13 = .ok (.bipush 8, 2) := by decide +kernel
theorem d_TR_save_15 : decode b_TR_save 15 = .ok (.invokestatic 22, 3) := by decide +kernel
theorem d_TR_save_18 : decode b_TR_save 18 = .ok (.aload_n 0, 1) := by decide +kernel
theorem d_TR_save_19 : decode b_TR_save 19 = .ok (.getfield 19, 3) := by decide +kernel
theorem d_TR_save_22 : decode b_TR_save 22 = .ok (.aload_n 0, 1) := by decide +kernel
theorem d_TR_save_23 : decode b_TR_save 23 = .ok (.getfield 9, 3) := by decide +kernel
theorem d_TR_save_26 : decode b_TR_save 26 = .ok (.iload_n 2, 1) := by decide +kernel
theorem d_TR_save_27 : decode b_TR_save 27 = .ok (.iastore, 1) := by decide +kernel
theorem d_TR_save_28 : decode b_TR_save 28 = .ok (.aload_n 0, 1) := by decide +kernel
theorem d_TR_save_29 : decode b_TR_save 29 = .ok (.dup, 1) := by decide +kernel
theorem d_TR_save_30 : decode b_TR_save 30 = .ok (.getfield 9, 3) := by decide +kernel
theorem d_TR_save_33 : decode b_TR_save 33 = .ok (.iconst 1, 1) := by decide +kernel
theorem d_TR_save_34 : decode b_TR_save 34 = .ok (.iadd, 1) := by decide +kernel
theorem d_TR_save_35 : decode b_TR_save 35 = .ok (.putfield 9, 3) := by decide +kernel
theorem d_TR_save_38 : decode b_TR_save 38 = .ok (.return_, 1) := by decide +kernel
theorem d_TR_restore_0 : decode b_TR_restore 0 = .ok (.aload_n 0, 1) := by decide +kernel
theorem d_TR_restore_1 : decode b_TR_restore 1 = .ok (.dup, 1) := by decide +kernel
theorem d_TR_restore_2 : decode b_TR_restore 2 = .ok (.getfield 9, 3) := by decide +kernel
theorem d_TR_restore_5 : decode b_TR_restore 5 = .ok (.iconst 1, 1) := by decide +kernel
theorem d_TR_restore_6 : decode b_TR_restore 6 = .ok (.isub, 1) := by decide +kernel
theorem d_TR_restore_7 : decode b_TR_restore 7 = .ok (.putfield 9, 3) := by decide +kernel
theorem d_TR_restore_10 : decode b_TR_restore 10 = .ok (.aload_n 0, 1) := by decide +kernel
theorem d_TR_restore_11 : decode b_TR_restore 11 = .ok (.getfield 15, 3) := by decide +kernel
theorem d_TR_restore_14 : decode b_TR_restore 14 = .ok (.aload_n 0, 1) := by decide +kernel
theorem d_TR_restore_15 : decode b_TR_restore 15 = .ok (.getfield 9, 3) := by decide +kernel
theorem d_TR_restore_18 : decode b_TR_restore 18 = .ok (.bipush 8, 2) := by decide +kernel
theorem d_TR_restore_20 : decode b_TR_restore 20 = .ok (.imul, 1) := by decide +kernel
theorem d_TR_restore_21 : decode b_TR_restore 21 = .ok (.aload_n 1, 1) := by decide +kernel
theorem d_TR_restore_22 : decode b_TR_restore 22 = .ok (.iconst 0, 1) := by decide +kernel
theorem d_TR_restore_23 : decode b_TR_restore 23 = .ok (.bipush 8, 2) := by decide +kernel
theorem d_TR_restore_25 : decode b_TR_restore 25 = .ok (.invokestatic 22, 3) := by decide +kernel
theorem d_TR_restore_28 : decode b_TR_restore 28 = .ok (.aload_n 0, 1) := by decide +kernel
theorem d_TR_restore_29 : decode b_TR_restore 29 = .ok (.getfield 19, 3) := by decide +kernel
theorem d_TR_restore_32 : decode b_TR_restore 32 = .ok (.aload_n 0, 1) := by decide +kernel
theorem d_TR_restore_33 : decode b_TR_restore 33 = .ok (.getfield 9, 3) := by decide +kernel
theorem d_TR_restore_36 : decode b_TR_restore 36 = .ok (.iaload, 1) := by decide +kernel
theorem d_TR_restore_37 : decode b_TR_restore 37 = .ok (.ireturn, 1) := by decide +kernel
theorem d_TE_init_0 : decode b_TE_init 0 = .ok (.aload_n 0, 1) := by decide +kernel
theorem d_TE_init_1 : decode b_TE_init 1 = .ok (.invokespecial 3, 3) := by decide +kernel
theorem d_TE_init_4 : decode b_TE_init 4 = .ok (.aload_n 0, 1) := by decide +kernel
theorem d_TE_init_5 : decode b_TE_init 5 = .ok (.iconst 0, 1) := by decide +kernel
theorem d_TE_init_6 : decode b_TE_init 6 = .ok (.putfield 9, 3) := by decide +kernel
theorem d_TE_init_9 : decode b_TE_init 9 = .ok (.aload_n 0, 1) := by decide +kernel
theorem d_TE_init_10 : decode b_TE_init 10 = .ok (.iconst (-1), 1) := by decide +kernel
theorem d_TE_init_11 : decode b_TE_init 11 = .ok (.putfield 15, 3) := by decide +kernel
theorem d_TE_init_14 : decode b_TE_init 14 = .ok (.aload_n 0, 1) := by decide +kernel
theorem d_TE_init_15 : decode b_TE_init 15 = .ok (.iconst 0, 1) := by decide +kernel
theorem d_TE_init_16 : decode b_TE_init 16 = .ok (.putfield 19, 3) := by decide +kernel
theorem d_TE_init_19 : decode b_TE_init 19 = .ok (.aload_n 0, 1) := by decide +kernel
theorem d_TE_init_20 : decode b_TE_init 20 = .ok (.iconst 0, 1) := by decide +kernel
theorem d_TE_init_21 : decode b_TE_init 21 = .ok (.putfield 22, 3) := by decide +kernel
theorem d_TE_init_24 : decode b_TE_init 24 = .ok (.aload_n 0, 1) := by decide +kernel
theorem d_TE_init_25 : decode b_TE_init 25 = .ok (.iconst 0, 1) := by decide +kernel
theorem d_TE_init_26 : decode b_TE_init 26 = .ok (.putfield 25, 3) := by decide +kernel
theorem d_TE_init_29 : decode b_TE_init 29 = .ok (.aload_n 0, 1) := by decide +kernel
theorem d_TE_init_30 : decode b_TE_init 30 = .ok (.bipush 80, 2) := by decide +kernel
theorem d_TE_init_32 : decode b_TE_init 32 = .ok (.newarray .int, 2) := by decide +kernel
theorem d_TE_init_34 : decode b_TE_init 34 = .ok (.putfield 28, 3) := by decide +kernel
theorem d_TE_init_37 : decode b_TE_init 37 = .ok (.aload_n 0, 1) := by decide +kernel
theorem d_TE_init_38 : decode b_TE_init 38 = .ok (.bipush 9, 2) := by decide +kernel
theorem d_TE_init_40 : decode b_TE_init 40 = .ok (.newarray .int, 2) := by decide +kernel
theorem d_TE_init_42 : decode b_TE_init 42 = .ok (.putfield 32, 3) := by decide +kernel
theorem d_TE_init_45 : decode b_TE_init 45 = .ok (.aload_n 0, 1) := by decide +kernel
theorem d_TE_init_46 : decode b_TE_init 46 = .ok (.bipush 9, 2) := by decide +kernel
theorem d_TE_init_48 : decode b_TE_init 48 = .ok (.newarray .int, 2) := by decide +kernel
theorem d_TE_init_50 : decode b_TE_init 50 = .ok (.putfield 35, 3) := by decide +kernel
theorem d_TE_init_53 : decode b_TE_init 53 = .ok (.aload_n 0, 1) := by decide +kernel
theorem d_TE_init_54 : decode b_TE_init 54 = .ok (.iconst 0, 1) := by decide +kernel
theorem d_TE_init_55 : decode b_TE_init 55 = .ok (.putfield 38, 3) := by decide +kernel
theorem d_TE_init_58 : decode b_TE_init 58 = .ok (.return_, 1) := by decide +kernel
theorem d_TE_begin_0 : decode b_TE_begin 0 = .ok (.aload_n 0, 1) := by decide +kernel
theorem d_TE_begin_1 : decode b_TE_begin 1 = .ok (.iconst 1, 1) := by decide +kernel
theorem d_TE_begin_2 : decode b_TE_begin 2 = .ok (.putfield 9, 3) := by decide +kernel
theorem d_TE_begin_5 : decode b_TE_begin 5 = .ok (.aload_n 0, 1) := by decide +kernel
theorem d_TE_begin_6 : decode b_TE_begin 6 = .ok (.iconst 0, 1) := by decide +kernel
theorem d_TE_begin_7 : decode b_TE_begin 7 = .ok (.putfield 38, 3) := by decide +kernel
theorem d_TE_begin_10 : decode b_TE_begin 10 = .ok (.aload_n 0, 1) := by decide +kernel
theorem d_TE_begin_11 : decode b_TE_begin 11 = .ok (.iconst (-1), 1) := by decide +kernel
theorem d_TE_begin_12 : decode b_TE_begin 12 = .ok (.putfield 15, 3) := by decide +kernel
theorem d_TE_begin_15 : decode b_TE_begin 15 = .ok (.aload_n 0, 1) := by decide +kernel
theorem d_TE_begin_16 : decode b_TE_begin 16 = .ok (.iconst 0, 1) := by decide +kernel
theorem d_TE_begin_17 : decode b_TE_begin 17 = .ok (.putfield 19, 3) := by decide +kernel
theorem d_TE_begin_20 : decode b_TE_begin 20 = .ok (.aload_n 0, 1) := by decide +kernel
theorem d_TE_begin_21 : decode b_TE_begin 21 = .ok (.iconst 0, 1) := by decide +kernel
theorem d_TE_begin_22 : decode b_TE_begin 22 = .ok (.putfield 22, 3) := by decide +kernel
theorem d_TE_begin_25 : decode b_TE_begin 25 = .ok (.aload_n 0, 1) := by decide +kernel
theorem d_TE_begin_26 : decode b_TE_begin 26 = .ok (.iconst 0, 1) := by decide +kernel
theorem d_TE_begin_27 : decode b_TE_begin 27 = .ok (.putfield 25, 3) := by decide +kernel
theorem d_TE_begin_30 : decode b_TE_begin 30 = .ok (.aload_n 0, 1) := by decide +kernel
theorem d_TE_begin_31 : decode b_TE_begin 31 = .ok (.aload_n 1, 1) := by decide +kernel
theorem d_TE_begin_32 : decode b_TE_begin 32 = .ok (.invokevirtual 41, 3) := by decide +kernel
theorem d_TE_begin_35 : decode b_TE_begin 35 = .ok (.return_, 1) := by decide +kernel
theorem d_TE_end_0 : decode b_TE_end 0 = .ok (.aload_n 0, 1) := by decide +kernel
theorem d_TE_end_1 : decode b_TE_end 1 = .ok (.iconst 0, 1) := by decide +kernel
theorem d_TE_end_2 : decode b_TE_end 2 = .ok (.putfield 9, 3) := by decide +kernel
theorem d_TE_end_5 : decode b_TE_end 5 = .ok (.aload_n 0, 1) := by decide +kernel
theorem d_TE_end_6 : decode b_TE_end 6 = .ok (.iconst (-1), 1) := by decide +kernel
theorem d_TE_end_7 : decode b_TE_end 7 = .ok (.putfield 15, 3) := by decide +kernel
theorem d_TE_end_10 : decode b_TE_end 10 = .ok (.aload_n 0, 1) := by decide +kernel
theorem d_TE_end_11 : decode b_TE_end 11 = .ok (.aload_n 1, 1) := by decide +kernel
theorem d_TE_end_12 : decode b_TE_end 12 = .ok (.invokevirtual 45, 3) := by decide +kernel
theorem d_TE_end_15 : decode b_TE_end 15 = .ok (.return_, 1) := by decide +kernel
theorem d_TE_prepareVisit_0 : decode b_TE_prepareVisit 0 = .ok (.aload_n 0, 1) := by decide +kernel
theorem d_TE_prepareVisit_1 : decode b_TE_prepareVisit 1 = .ok (.getfield 38, 3) := by decide +kernel
theorem d_TE_prepareVisit_4 : decode b_TE_prepareVisit 4 = .ok (.ifCond .ne 10, 3) := by decide +kernel
theorem d_TE_prepareVisit_7 : decode b_TE_prepareVisit 7 = .ok (.aload_n 0, 1) := by decide +kernel
theorem d_TE_prepareVisit_8 : decode b_TE_prepareVisit 8 = .ok (.iconst 1, 1) := by decide +kernel
theorem d_TE_prepareVisit_9 : decode b_TE_prepareVisit 9 = .ok (.putfield 38, 3) := by decide +kernel
theorem d_TE_prepareVisit_12 : decode b_TE_prepareVisit 12 = .ok (.iconst 1, 1) := by decide +kernel
theorem d_TE_prepareVisit_13 : decode b_TE_prepareVisit 13 = .ok (.ireturn, 1) := by decide +kernel
theorem d_TE_prepareVisit_14 : decode b_TE_prepareVisit 14 = .ok (.aload_n 0, 1) := by decide +kernel
theorem d_TE_prepareVisit_15 : decode b_TE_prepareVisit 15 = .ok (.getfield 15, 3) := by decide +kernel
theorem d_TE_prepareVisit_18 : decode b_TE_prepareVisit 18 = .ok (.ifCond .lt 28, 3) := by decide +kernel
theorem d_TE_prepareVisit_21 : decode b_TE_prepareVisit 21 = .ok (.aload_n 0, 1) := by decide +kernel
theorem d_TE_prepareVisit_22 : decode b_TE_prepareVisit 22 = .ok (.getfield 35, 3) := by decide +kernel
theorem d_TE_prepareVisit_25 : decode b_TE_prepareVisit 25 = .ok (.aload_n 0, 1) := by decide +kernel
theorem d_TE_prepareVisit_26 : decode b_TE_prepareVisit 26 = .ok (.getfield 15, 3) := by decide +kernel
theorem d_TE_prepareVisit_29 : decode b_TE_prepareVisit 29 = .ok (.iaload, 1) := by decide +kernel
theorem d_TE_prepareVisit_30 : decode b_TE_prepareVisit 30 = .ok (.ifCond .ne 16, 3) := by decide +kernel
theorem d_TE_prepareVisit_33 : decode b_TE_prepareVisit 33 = .ok (.aload_n 0, 1) := by decide +kernel
theorem d_TE_prepareVisit_34 : decode b_TE_prepareVisit 34 = .ok (.dup, 1) := by decide +kernel
theorem d_TE_prepareVisit_35 : decode b_TE_prepareVisit 35 = .ok (.getfield 15, 3) := by decide +kernel
theorem d_TE_prepareVisit_38 : decode b_TE_prepareVisit 38 = .ok (.iconst 1, 1) := by decide +kernel
theorem d_TE_prepareVisit_39 : decode b_TE_prepareVisit 39 = .ok (.isub, 1) := by decide +kernel
theorem d_TE_prepareVisit_40 : decode b_TE_prepareVisit 40 = .ok (.putfield 15, 3) := by decide +kernel
theorem d_TE_prepareVisit_43 : decode b_TE_prepareVisit 43 = .ok (.goto (-29), 3) := by decide +kernel
theorem d_TE_prepareVisit_46 : decode b_TE_prepareVisit 46 = .ok (.aload_n 0, 1) := by decide +kernel
theorem d_TE_prepareVisit_47 : decode b_TE_prepareVisit 47 = .ok (.getfield 15, 3) := by decide +kernel
theorem d_TE_prepareVisit_50 : decode b_TE_prepareVisit 50 = .ok (.ifCond .ge 5, 3) := by decide +kernel
theorem d_TE_prepareVisit_53 : decode b_TE_prepareVisit 53 = .ok (.iconst 0, 1) := by decide +kernel
theorem d_TE_prepareVisit_54 : decode b_TE_prepareVisit 54 = .ok (.ireturn, 1) := by decide +kernel
theorem d_TE_prepareVisit_55 : decode b_TE_prepareVisit 55 = .ok (.aload_n 0, 1) := by decide +kernel
theorem d_TE_prepareVisit_56 : decode b_TE_prepareVisit 56 = .ok (.getfield 35, 3) := by decide +kernel
theorem d_TE_prepareVisit_59 : decode b_TE_prepareVisit 59 = .ok (.aload_n 0, 1) := by decide +kernel
theorem d_TE_prepareVisit_60 : decode b_TE_prepareVisit 60 = .ok (.getfield 15, 3) := by decide +kernel
theorem d_TE_prepareVisit_63 : decode b_TE_prepareVisit 63 = .ok (.iaload, 1) := by decide +kernel
theorem d_TE_prepareVisit_64 : decode b_TE_prepareVisit 64 = .ok (.aload_n 0, 1) := by decide +kernel
theorem d_TE_prepareVisit_65 : decode b_TE_prepareVisit 65 = .ok (.getfield 35, 3) := by decide +kernel
theorem d_TE_prepareVisit_68 : decode b_TE_prepareVisit 68 = .ok (.aload_n 0, 1) := by decide +kernel
theorem d_TE_prepareVisit_69 : decode b_TE_prepareVisit 69 = .ok (.getfield 15, 3) := by decide +kernel
theorem d_TE_prepareVisit_72 : decode b_TE_prepareVisit 72 = .ok (.iaload, 1) := by decide +kernel
theorem d_TE_prepareVisit_73 : decode b_TE_prepareVisit 73 = .ok (.ineg, 1) := by decide +kernel
theorem d_TE_prepareVisit_74 : decode b_TE_prepareVisit 74 = .ok (.iand, 1) := by decide +kernel
theorem d_TE_prepareVisit_75 : decode b_TE_prepareVisit 75 = .ok (.istore_n 2, 1) := by decide +kernel
theorem d_TE_prepareVisit_76 : decode b_TE_prepareVisit 76 = .ok (.aload_n 0, 1) := by decide +kernel
theorem d_TE_prepareVisit_77 : decode b_TE_prepareVisit 77 = .ok (.getfield 35, 3) := by decide +kernel
theorem d_TE_prepareVisit_80 : decode b_TE_prepareVisit 80 = .ok (.aload_n 0, 1) := by decide +kernel
theorem d_TE_prepareVisit_81 : decode b_TE_prepareVisit 81 = .ok (.getfield 15, 3) := by decide +kernel
theorem d_TE_prepareVisit_84 : decode b_TE_prepareVisit 84 = .ok (.dup2, 1) := by decide +kernel
theorem d_TE_prepareVisit_85 : decode b_TE_prepareVisit 85 = .ok (.iaload, 1) := by decide +kernel
theorem d_TE_prepareVisit_86 : decode b_TE_prepareVisit 86 = .ok (.iload_n 2, 1) := by decide +kernel
theorem d_TE_prepareVisit_87 : decode b_TE_prepareVisit 87 = .ok (.ixor, 1) := by decide +kernel
theorem d_TE_prepareVisit_88 : decode b_TE_prepareVisit 88 = .ok (.iastore, 1) := by decide +kernel
theorem d_TE_prepareVisit_89 : decode b_TE_prepareVisit 89 = .ok (.aload_n 0, 1) := by decide +kernel
theorem d_TE_prepareVisit_90 : decode b_TE_prepareVisit 90 = .ok (.aload_n 1, 1) := by decide +kernel
theorem d_TE_prepareVisit_91 : decode b_TE_prepareVisit 91 = .ok (.invokevirtual 45, 3) := by decide +kernel
theorem d_TE_prepareVisit_94 : decode b_TE_prepareVisit 94 = .ok (.aload_n 1, 1) := by decide +kernel
theorem d_TE_prepareVisit_95 : decode b_TE_prepareVisit 95 = .ok (.aload_n 0, 1) := by decide +kernel
theorem d_TE_prepareVisit_96 : decode b_TE_prepareVisit 96 = .ok (.getfield 32, 3) := by decide +kernel
theorem d_TE_prepareVisit_99 : decode b_TE_prepareVisit 99 = .ok (.aload_n 0, 1) := by decide +kernel
theorem d_TE_prepareVisit_100 : decode b_TE_prepareVisit 100 = .ok (.getfield 15, 3) := by decide +kernel
theorem d_TE_prepareVisit_103 : decode b_TE_prepareVisit 103 = .ok (.iaload, 1) := by decide +kernel
theorem d_TE_prepareVisit_104 : decode b_TE_prepareVisit 104 = .ok (.iload_n 2, 1) := by decide +kernel
theorem d_TE_prepareVisit_105 : decode b_TE_prepareVisit 105 = .ok (.iastore, 1) := by decide +kernel
theorem d_TE_prepareVisit_106 : decode b_TE_prepareVisit 106 = .ok (.iconst 1, 1) := by decide +kernel
theorem d_TE_prepareVisit_107 : decode b_TE_prepareVisit 107 = .ok (.ireturn, 1) := by decide +kernel
theorem d_TE_visit_0 : decode b_TE_visit 0 = .ok (.aload_n 0, 1) := by decide +kernel
theorem d_TE_visit_1 : decode b_TE_visit 1 = .ok (.dup, 1) := by decide +kernel
theorem d_TE_visit_2 : decode b_TE_visit 2 = .ok (.getfield 19, 3) := by decide +kernel
theorem d_TE_visit_5 : decode b_TE_visit 5 = .ok (.iconst 1, 1) := by decide +kernel
theorem d_TE_visit_6 : decode b_TE_visit 6 = .ok (.iadd, 1) := by decide +kernel
theorem d_TE_visit_7 : decode b_TE_visit 7 = .ok (.putfield 19, 3) := by decide +kernel
theorem d_TE_visit_10 : decode b_TE_visit 10 = .ok (.aload_n 1, 1) := by decide +kernel
theorem d_TE_visit_11 : decode b_TE_visit 11 = .ok (.aload_n 2, 1) := by decide +kernel
theorem d_TE_visit_12 : decode b_TE_visit 12 = .ok (.invokevirtual 48, 3) := by decide +kernel
theorem d_TE_visit_15 : decode b_TE_visit 15 = .ok (.ifCond .ne 20, 3) := by decide +kernel
theorem d_TE_visit_18 : decode b_TE_visit 18 = .ok (.aload_n 0, 1) := by decide +kernel
theorem d_TE_visit_19 : decode b_TE_visit 19 = .ok (.dup, 1) := by decide +kernel
theorem d_TE_visit_20 : decode b_TE_visit 20 = .ok (.getfield 22, 3) := by decide +kernel
theorem d_TE_visit_23 : decode b_TE_visit 23 = .ok (.iconst 1, 1) := by decide +kernel
theorem d_TE_visit_24 : decode b_TE_visit 24 = .ok (.iadd, 1) := by decide +kernel
theorem d_TE_visit_25 : decode b_TE_visit 25 = .ok (.putfield 22, 3) := by decide +kernel
theorem d_TE_visit_28 : decode b_TE_visit 28 = .ok (.aload_n 0, 1) := by decide +kernel
theorem d_TE_visit_29 : decode b_TE_visit 29 = .ok (.aload_n 2, 1) := by decide +kernel
theorem d_TE_visit_30 : decode b_TE_visit 30 = .ok (.invokevirtual 45, 3) := by decide +kernel
theorem d_TE_visit_33 : decode b_TE_visit 33 = .ok (.iconst 0, 1) := by decide +kernel
theorem d_TE_visit_34 : decode b_TE_visit 34 = .ok (.ireturn, 1) := by decide +kernel
theorem d_TE_visit_35 : decode b_TE_visit 35 = .ok (.aload_n 0, 1) := by decide +kernel
theorem d_TE_visit_36 : decode b_TE_visit 36 = .ok (.dup, 1) := by decide +kernel
theorem d_TE_visit_37 : decode b_TE_visit 37 = .ok (.getfield 15, 3) := by decide +kernel
theorem d_TE_visit_40 : decode b_TE_visit 40 = .ok (.iconst 1, 1) := by decide +kernel
theorem d_TE_visit_41 : decode b_TE_visit 41 = .ok (.iadd, 1) := by decide +kernel
theorem d_TE_visit_42 : decode b_TE_visit 42 = .ok (.putfield 15, 3) := by decide +kernel
theorem d_TE_visit_45 : decode b_TE_visit 45 = .ok (.aload_n 0, 1) := by decide +kernel
theorem d_TE_visit_46 : decode b_TE_visit 46 = .ok (.aload_n 2, 1) := by decide +kernel
theorem d_TE_visit_47 : decode b_TE_visit 47 = .ok (.invokevirtual 41, 3) := by decide +kernel
theorem d_TE_visit_50 : decode b_TE_visit 50 = .ok (.aload_n 1, 1) := by decide +kernel
theorem d_TE_visit_51 : decode b_TE_visit 51 = .ok (.aload_n 2, 1) := by decide +kernel
theorem d_TE_visit_52 : decode b_TE_visit 52 = .ok (.invokestatic 54, 3) := by decide +kernel
theorem d_TE_visit_55 : decode b_TE_visit 55 = .ok (.istore_n 3, 1) := by decide +kernel
theorem d_TE_visit_56 : decode b_TE_visit 56 = .ok (.iload_n 3, 1) := by decide +kernel
theorem d_TE_visit_57 : decode b_TE_visit 57 = .ok (.iconst (-1), 1) := by decide +kernel
theorem d_TE_visit_58 : decode b_TE_visit 58 = .ok (.if_icmp .ne 25, 3) := by decide +kernel
theorem d_TE_visit_61 : decode b_TE_visit 61 = .ok (.aload_n 0, 1) := by decide +kernel
theorem d_TE_visit_62 : decode b_TE_visit 62 = .ok (.getfield 35, 3) := by decide +kernel
theorem d_TE_visit_65 : decode b_TE_visit 65 = .ok (.aload_n 0, 1) := by decide +kernel
theorem d_TE_visit_66 : decode b_TE_visit 66 = .ok (.getfield 15, 3) := by decide +kernel
theorem d_TE_visit_69 : decode b_TE_visit 69 = .ok (.iconst 0, 1) := by decide +kernel
theorem d_TE_visit_70 : decode b_TE_visit 70 = .ok (.iastore, 1) := by decide +kernel
theorem d_TE_visit_71 : decode b_TE_visit 71 = .ok (.aload_n 0, 1) := by decide +kernel
theorem d_TE_visit_72 : decode b_TE_visit 72 = .ok (.dup, 1) := by decide +kernel
theorem d_TE_visit_73 : decode b_TE_visit 73 = .ok (.getfield 25, 3) := by decide +kernel
theorem d_TE_visit_76 : decode b_TE_visit 76 = .ok (.iconst 1, 1) := by decide +kernel
theorem d_TE_visit_77 : decode b_TE_visit 77 = .ok (.iadd, 1) := by decide +kernel
theorem d_TE_visit_78 : decode b_TE_visit 78 = .ok (.putfield 25, 3) := by decide +kernel
theorem d_TE_visit_81 : decode b_TE_visit 81 = .ok (.iconst 1, 1) := by decide +kernel
theorem d_TE_visit_82 : decode b_TE_visit 82 = .ok (.ireturn, 1) := by decide +kernel
theorem d_TE_visit_83 : decode b_TE_visit 83 = .ok (.aload_n 0, 1) := by decide +kernel
theorem d_TE_visit_84 : decode b_TE_visit 84 = .ok (.getfield 32, 3) := by decide +kernel
theorem d_TE_visit_87 : decode b_TE_visit 87 = .ok (.aload_n 0, 1) := by decide +kernel
theorem d_TE_visit_88 : decode b_TE_visit 88 = .ok (.getfield 15, 3) := by decide +kernel
theorem d_TE_visit_91 : decode b_TE_visit 91 = .ok (.iload_n 3, 1) := by decide +kernel
theorem d_TE_visit_92 : decode b_TE_visit 92 = .ok (.iastore, 1) := by decide +kernel
theorem d_TE_visit_93 : decode b_TE_visit 93 = .ok (.aload_n 0, 1) := by decide +kernel
theorem d_TE_visit_94 : decode b_TE_visit 94 = .ok (.getfield 35, 3) := by decide +kernel
theorem d_TE_visit_97 : decode b_TE_visit 97 = .ok (.aload_n 0, 1) := by decide +kernel
theorem d_TE_visit_98 : decode b_TE_visit 98 = .ok (.getfield 15, 3) := by decide +kernel
theorem d_TE_visit_101 : decode b_TE_visit 101 = .ok (.aload_n 2, 1) := by decide +kernel
theorem d_TE_visit_102 : decode b_TE_visit 102 = .ok (.iload_n 3, 1) := by decide +kernel
theorem d_TE_visit_103 : decode b_TE_visit 103 = .ok (.iaload, 1) := by decide +kernel
theorem d_TE_visit_104 : decode b_TE_visit 104 = .ok (.iastore, 1) := by decide +kernel
theorem d_TE_visit_105 : decode b_TE_visit 105 = .ok (.iconst 0, 1) := by decide +kernel
theorem d_TE_visit_106 : decode b_TE_visit 106 = .ok (.ireturn, 1) := by decide +kernel
theorem d_TE_branchVariable_0 : decode b_TE_branchVariable 0 = .ok (.iconst (-1), 1) := by decide +kernel
theorem d_TE_branchVariable_1 : decode b_TE_branchVariable 1 = .ok (.istore_n 2, 1) := by decide +kernel
theorem d_TE_branchVariable_2 : decode b_TE_branchVariable 2 = .ok (.iconst 0, 1) := by decide +kernel
theorem d_TE_branchVariable_3 : decode b_TE_branchVariable 3 = .ok (.istore_n 3, 1) := by decide +kernel
theorem d_TE_branchVariable_4 : decode b_TE_branchVariable 4 = .ok (.iconst 0, 1) := by decide +kernel
theorem d_TE_branchVariable_5 : decode b_TE_branchVariable 5 = .ok (.istore 4, 2) := by decide +kernel
theorem d_TE_branchVariable_7 : decode b_TE_branchVariable 7 = .ok (.iconst 0, 1) := by decide +kernel
theorem d_TE_branchVariable_8 : decode b_TE_branchVariable 8 = .ok (.istore 5, 2) := by decide +kernel
theorem d_TE_branchVariable_10 : decode b_TE_branchVariable 10 = .ok (.iload 5, 2) := by decide +kernel
theorem d_TE_branchVariable_12 : decode b_TE_branchVariable 12 = .ok (.bipush 8, 2) := by decide +kernel
theorem d_TE_branchVariable_14 : decode b_TE_branchVariable 14 = .ok (.if_icmp .ge 66, 3) := by decide +kernel
theorem d_TE_branchVariable_17 : decode b_TE_branchVariable 17 = .ok (.aload_n 1, 1) := by decide +kernel
theorem d_TE_branchVariable_18 : decode b_TE_branchVariable 18 = .ok (.iload 5, 2) := by decide +kernel
theorem d_TE_branchVariable_20 : decode b_TE_branchVariable 20 = .ok (.iaload, 1) := by decide +kernel
theorem d_TE_branchVariable_21 : decode b_TE_branchVariable 21 = .ok (.invokestatic 58, 3) := by decide +kernel
theorem d_TE_branchVariable_24 : decode b_TE_branchVariable 24 = .ok (.ifCond .eq 50, 3) := by decide +kernel
theorem d_TE_branchVariable_27 : decode b_TE_branchVariable 27 = .ok (.aload_n 1, 1) := by decide +kernel
theorem d_TE_branchVariable_28 : decode b_TE_branchVariable 28 = .ok (.iload 5, 2) := by decide +kernel
theorem d_TE_branchVariable_30 : decode b_TE_branchVariable 30 = .ok (.iaload, 1) := by decide +kernel
theorem d_TE_branchVariable_31 : decode b_TE_branchVariable 31 = .ok (.invokestatic 62, 3) := by decide +kernel
theorem d_TE_branchVariable_34 : decode b_TE_branchVariable 34 = .ok (.istore 6, 2) := by decide +kernel
theorem d_TE_branchVariable_36 : decode b_TE_branchVariable 36 = .ok (.iconst 1, 1) := by decide +kernel
theorem d_TE_branchVariable_37 : decode b_TE_branchVariable 37 = .ok (.aload_n 0, 1) := by decide +kernel
theorem d_TE_branchVariable_38 : decode b_TE_branchVariable 38 = .ok (.iload 5, 2) := by decide +kernel
theorem d_TE_branchVariable_40 : decode b_TE_branchVariable 40 = .ok (.aload_n 1, 1) := by decide +kernel
theorem d_TE_branchVariable_41 : decode b_TE_branchVariable 41 = .ok (.invokevirtual 68, 3) := by decide +kernel
theorem d_TE_branchVariable_44 : decode b_TE_branchVariable 44 = .ok (.iadd, 1) := by decide +kernel
theorem d_TE_branchVariable_45 : decode b_TE_branchVariable 45 = .ok (.istore 7, 2) := by decide +kernel
theorem d_TE_branchVariable_47 : decode b_TE_branchVariable 47 = .ok (.iload_n 2, 1) := by decide +kernel
theorem d_TE_branchVariable_48 : decode b_TE_branchVariable 48 = .ok (.iconst (-1), 1) := by decide +kernel
theorem d_TE_branchVariable_49 : decode b_TE_branchVariable 49 = .ok (.if_icmp .eq 15, 3) := by decide +kernel
theorem d_TE_branchVariable_52 : decode b_TE_branchVariable 52 = .ok (.iload 6, 2) := by decide +kernel
theorem d_TE_branchVariable_54 : decode b_TE_branchVariable 54 = .ok (.iload 4, 2) := by decide +kernel
theorem d_TE_branchVariable_56 : decode b_TE_branchVariable 56 = .ok (.imul, 1) := by decide +kernel
theorem d_TE_branchVariable_57 : decode b_TE_branchVariable 57 = .ok (.iload_n 3, 1) := by decide +kernel
theorem d_TE_branchVariable_58 : decode b_TE_branchVariable 58 = .ok (.iload 7, 2) := by decide +kernel
theorem d_TE_branchVariable_60 : decode b_TE_branchVariable 60 = .ok (.imul, 1) := by decide +kernel
theorem d_TE_branchVariable_61 : decode b_TE_branchVariable 61 = .ok (.if_icmp .ge 13, 3) := by decide +kernel
theorem d_TE_branchVariable_64 : decode b_TE_branchVariable 64 = .ok (.iload 5, 2) := by decide +kernel
theorem d_TE_branchVariable_66 : decode b_TE_branchVariable 66 = .ok (.istore_n 2, 1) := by decide +kernel
theorem d_TE_branchVariable_67 : decode b_TE_branchVariable 67 = .ok (.iload 6, 2) := by decide +kernel
theorem d_TE_branchVariable_69 : decode b_TE_branchVariable 69 = .ok (.istore_n 3, 1) := by decide +kernel
theorem d_TE_branchVariable_70 : decode b_TE_branchVariable 70 = .ok (.iload 7, 2) := by decide +kernel
theorem d_TE_branchVariable_72 : decode b_TE_branchVariable 72 = .ok (.istore 4, 2) := by decide +kernel
theorem d_TE_branchVariable_74 : decode b_TE_branchVariable 74 = .ok (.iinc 5 1, 3) := by decide +kernel
theorem d_TE_branchVariable_77 : decode b_TE_branchVariable 77 = .ok (.goto (-67), 3) := by decide +kernel
theorem d_TE_branchVariable_80 : decode b_TE_branchVariable 80 = .ok (.iload_n 2, 1) := by decide +kernel
theorem d_TE_branchVariable_81 : decode b_TE_branchVariable 81 = .ok (.ireturn, 1) := by decide +kernel
theorem d_TE_saveRow_0 : decode b_TE_saveRow 0 = .ok (.aload_n 1, 1) := by decide +kernel
theorem d_TE_saveRow_1 : decode b_TE_saveRow 1 = .ok (.iconst 0, 1) := by decide +kernel
theorem d_TE_saveRow_2 : decode b_TE_saveRow 2 = .ok (.aload_n 0, 1) := by decide +kernel
theorem d_TE_saveRow_3 : decode b_TE_saveRow 3 = .ok (.getfield 28, 3) := by decide +kernel
theorem d_TE_saveRow_6 : decode b_TE_saveRow 6 = .ok (.aload_n 0, 1) := by decide +kernel
theorem d_TE_saveRow_7 : decode b_TE_saveRow 7 = .ok (.getfield 15, 3) := by decide +kernel
theorem d_TE_saveRow_10 : decode b_TE_saveRow 10 = .ok (.iconst 1, 1) := by decide +kernel
theorem d_TE_saveRow_11 : decode b_TE_saveRow 11 = .ok (.iadd, 1) := by decide +kernel
theorem d_TE_saveRow_12 : decode b_TE_saveRow 12 = .ok (.bipush 8, 2) := by decide +kernel
theorem d_TE_saveRow_14 : decode b_TE_saveRow 14 = .ok (.imul, 1) := by decide +kernel
theorem d_TE_saveRow_15 : decode b_TE_saveRow 15 = .ok (.bipush 8, 2) := by decide +kernel
theorem d_TE_saveRow_17 : decode b_TE_saveRow 17 = .ok (.invokestatic 72, 3) := by decide +kernel
theorem d_TE_saveRow_20 : decode b_TE_saveRow 20 = .ok (.return_, 1) := by decide +kernel
theorem d_TE_loadRow_0 : decode b_TE_loadRow 0 = .ok (.aload_n 0, 1) := by decide +kernel
theorem d_TE_loadRow_1 : decode b_TE_loadRow 1 = .ok (.getfield 28, 3) := by decide +kernel
theorem d_TE_loadRow_4 : decode b_TE_loadRow 4 = .ok (.aload_n 0, 1) := by decide +kernel
theorem d_TE_loadRow_5 : decode b_TE_loadRow 5 = .ok (.getfield 15, 3) := by decide +kernel
theorem d_TE_loadRow_8 : decode b_TE_loadRow 8 = .ok (.iconst 1, 1) := by decide +kernel
theorem d_TE_loadRow_9 : decode b_TE_loadRow 9 = .ok (.iadd, 1) := by decide +kernel
theorem d_TE_loadRow_10 : decode b_TE_loadRow 10 = .ok (.bipush 8, 2) := by decide +kernel
theorem d_TE_loadRow_12 : decode b_TE_loadRow 12 = .ok (.imul, 1) := by decide +kernel
theorem d_TE_loadRow_13 : decode b_TE_loadRow 13 = .ok (.aload_n 1, 1) := by decide +kernel
theorem d_TE_loadRow_14 : decode b_TE_loadRow 14 = .ok (.iconst 0, 1) := by decide +kernel
theorem d_TE_loadRow_15 : decode b_TE_loadRow 15 = .ok (.bipush 8, 2) := by decide +kernel
theorem d_TE_loadRow_17 : decode b_TE_loadRow 17 = .ok (.invokestatic 72, 3) := by decide +kernel
theorem d_TE_loadRow_20 : decode b_TE_loadRow 20 = .ok (.return_, 1) := by decide +kernel
theorem d_IN_bitCount_0 : decode b_IN_bitCount 0 = .ok (.iload_n 0, 1) := by decide +kernel
theorem d_IN_bitCount_1 : decode b_IN_bitCount 1 = .ok (.iload_n 0, 1) := by decide +kernel
theorem d_IN_bitCount_2 : decode b_IN_bitCount 2 = .ok (.iconst 1, 1) := by decide +kernel
theorem d_IN_bitCount_3 : decode b_IN_bitCount 3 = .ok (.iushr, 1) := by decide +kernel
theorem d_IN_bitCount_4 : decode b_IN_bitCount 4 = .ok (.ldc_w 265, 3) := by decide +kernel
theorem d_IN_bitCount_7 : decode b_IN_bitCount 7 = .ok (.iand, 1) := by decide +kernel
theorem d_IN_bitCount_8 : decode b_IN_bitCount 8 = .ok (.isub, 1) := by decide +kernel
theorem d_IN_bitCount_9 : decode b_IN_bitCount 9 = .ok (.istore_n 0, 1) := by decide +kernel
theorem d_IN_bitCount_10 : decode b_IN_bitCount 10 = .ok (.iload_n 0, 1) := by decide +kernel
theorem d_IN_bitCount_11 : decode b_IN_bitCount 11 = .ok (.ldc_w 266, 3) := by decide +kernel
theorem d_IN_bitCount_14 : decode b_IN_bitCount 14 = .ok (.iand, 1) := by decide +kernel
theorem d_IN_bitCount_15 : decode b_IN_bitCount 15 = .ok (.iload_n 0, 1) := by decide +kernel
theorem d_IN_bitCount_16 : decode b_IN_bitCount 16 = .ok (.iconst 2, 1) := by decide +kernel
theorem d_IN_bitCount_17 : decode b_IN_bitCount 17 = .ok (.iushr, 1) := by decide +kernel
theorem d_IN_bitCount_18 : decode b_IN_bitCount 18 = .ok (.ldc_w 266, 3) := by decide +kernel
theorem d_IN_bitCount_21 : decode b_IN_bitCount 21 = .ok (.iand, 1) := by decide +kernel
theorem d_IN_bitCount_22 : decode b_IN_bitCount 22 = .ok (.iadd, 1) := by decide +kernel
theorem d_IN_bitCount_23 : decode b_IN_bitCount 23 = .ok (.istore_n 0, 1) := by decide +kernel
theorem d_IN_bitCount_24 : decode b_IN_bitCount 24 = .ok (.iload_n 0, 1) := by decide +kernel
theorem d_IN_bitCount_25 : decode b_IN_bitCount 25 = .ok (.iload_n 0, 1) := by decide +kernel
theorem d_IN_bitCount_26 : decode b_IN_bitCount 26 = .ok (.iconst 4, 1) := by decide +kernel
theorem d_IN_bitCount_27 : decode b_IN_bitCount 27 = .ok (.iushr, 1) := by decide +kernel
theorem d_IN_bitCount_28 : decode b_IN_bitCount 28 = .ok (.iadd, 1) := by decide +kernel
theorem d_IN_bitCount_29 : decode b_IN_bitCount 29 = .ok (.ldc_w 267, 3) := by decide +kernel
theorem d_IN_bitCount_32 : decode b_IN_bitCount 32 = .ok (.iand, 1) := by decide +kernel
theorem d_IN_bitCount_33 : decode b_IN_bitCount 33 = .ok (.istore_n 0, 1) := by decide +kernel
theorem d_IN_bitCount_34 : decode b_IN_bitCount 34 = .ok (.iload_n 0, 1) := by decide +kernel
theorem d_IN_bitCount_35 : decode b_IN_bitCount 35 = .ok (.iload_n 0, 1) := by decide +kernel
theorem d_IN_bitCount_36 : decode b_IN_bitCount 36 = .ok (.bipush 8, 2) := by decide +kernel
theorem d_IN_bitCount_38 : decode b_IN_bitCount 38 = .ok (.iushr, 1) := by decide +kernel
theorem d_IN_bitCount_39 : decode b_IN_bitCount 39 = .ok (.iadd, 1) := by decide +kernel
theorem d_IN_bitCount_40 : decode b_IN_bitCount 40 = .ok (.istore_n 0, 1) := by decide +kernel
theorem d_IN_bitCount_41 : decode b_IN_bitCount 41 = .ok (.iload_n 0, 1) := by decide +kernel
theorem d_IN_bitCount_42 : decode b_IN_bitCount 42 = .ok (.iload_n 0, 1) := by decide +kernel
theorem d_IN_bitCount_43 : decode b_IN_bitCount 43 = .ok (.bipush 16, 2) := by decide +kernel
theorem d_IN_bitCount_45 : decode b_IN_bitCount 45 = .ok (.iushr, 1) := by decide +kernel
theorem d_IN_bitCount_46 : decode b_IN_bitCount 46 = .ok (.iadd, 1) := by decide +kernel
theorem d_IN_bitCount_47 : decode b_IN_bitCount 47 = .ok (.istore_n 0, 1) := by decide +kernel
theorem d_IN_bitCount_48 : decode b_IN_bitCount 48 = .ok (.iload_n 0, 1) := by decide +kernel
theorem d_IN_bitCount_49 : decode b_IN_bitCount 49 = .ok (.bipush 63, 2) := by decide +kernel
theorem d_IN_bitCount_51 : decode b_IN_bitCount 51 = .ok (.iand, 1) := by decide +kernel
theorem d_IN_bitCount_52 : decode b_IN_bitCount 52 = .ok (.ireturn, 1) := by decide +kernel
