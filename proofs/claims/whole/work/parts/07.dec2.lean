theorem d_TD_init_0 : decode b_TD_init 0 = .ok (.aload_n 0, 1) := by decide +kernel
theorem d_TD_init_1 : decode b_TD_init 1 = .ok (.invokespecial 3, 3) := by decide +kernel
theorem d_TD_init_4 : decode b_TD_init 4 = .ok (.aload_n 0, 1) := by decide +kernel
theorem d_TD_init_5 : decode b_TD_init 5 = .ok (.bipush 8, 2) := by decide +kernel
theorem d_TD_init_7 : decode b_TD_init 7 = .ok (.newarray .int, 2) := by decide +kernel
theorem d_TD_init_9 : decode b_TD_init 9 = .ok (.putfield 9, 3) := by decide +kernel
theorem d_TD_init_12 : decode b_TD_init 12 = .ok (.aload_n 0, 1) := by decide +kernel
theorem d_TD_init_13 : decode b_TD_init 13 = .ok (.bipush 8, 2) := by decide +kernel
theorem d_TD_init_15 : decode b_TD_init 15 = .ok (.newarray .int, 2) := by decide +kernel
theorem d_TD_init_17 : decode b_TD_init 17 = .ok (.putfield 13, 3) := by decide +kernel
theorem d_TD_init_20 : decode b_TD_init 20 = .ok (.aload_n 0, 1) := by decide +kernel
theorem d_TD_init_21 : decode b_TD_init 21 = .ok (.new 16, 3) := by decide +kernel
theorem d_TD_init_24 : decode b_TD_init 24 = .ok (.dup, 1) := by decide +kernel
theorem d_TD_init_25 : decode b_TD_init 25 = .ok (.invokespecial 18, 3) := by decide +kernel
theorem d_TD_init_28 : decode b_TD_init 28 = .ok (.putfield 19, 3) := by decide +kernel
theorem d_TD_init_31 : decode b_TD_init 31 = .ok (.aload_n 0, 1) := by decide +kernel
theorem d_TD_init_32 : decode b_TD_init 32 = .ok (.new 23, 3) := by decide +kernel
theorem d_TD_init_35 : decode b_TD_init 35 = .ok (.dup, 1) := by decide +kernel
theorem d_TD_init_36 : decode b_TD_init 36 = .ok (.invokespecial 25, 3) := by decide +kernel
theorem d_TD_init_39 : decode b_TD_init 39 = .ok (.putfield 26, 3) := by decide +kernel
theorem d_TD_init_42 : decode b_TD_init 42 = .ok (.aload_n 0, 1) := by decide +kernel
theorem d_TD_init_43 : decode b_TD_init 43 = .ok (.new 30, 3) := by decide +kernel
theorem d_TD_init_46 : decode b_TD_init 46 = .ok (.dup, 1) := by decide +kernel
theorem d_TD_init_47 : decode b_TD_init 47 = .ok (.invokespecial 32, 3) := by decide +kernel
theorem d_TD_init_50 : decode b_TD_init 50 = .ok (.putfield 33, 3) := by decide +kernel
theorem d_TD_init_53 : decode b_TD_init 53 = .ok (.aload_n 0, 1) := by decide +kernel
theorem d_TD_init_54 : decode b_TD_init 54 = .ok (.iconst 0, 1) := by decide +kernel
theorem d_TD_init_55 : decode b_TD_init 55 = .ok (.putfield 37, 3) := by decide +kernel
theorem d_TD_init_58 : decode b_TD_init 58 = .ok (.return_, 1) := by decide +kernel
theorem d_TD_variable_0 : decode b_TD_variable 0 = .ok (.aload_n 0, 1) := by decide +kernel
theorem d_TD_variable_1 : decode b_TD_variable 1 = .ok (.invokevirtual 41, 3) := by decide +kernel
theorem d_TD_variable_4 : decode b_TD_variable 4 = .ok (.ifCond .eq 23, 3) := by decide +kernel
theorem d_TD_variable_7 : decode b_TD_variable 7 = .ok (.aload_n 0, 1) := by decide +kernel
theorem d_TD_variable_8 : decode b_TD_variable 8 = .ok (.getfield 37, 3) := by decide +kernel
theorem d_TD_variable_11 : decode b_TD_variable 11 = .ok (.bipush 8, 2) := by decide +kernel
theorem d_TD_variable_13 : decode b_TD_variable 13 = .ok (.if_icmp .eq 14, 3) := by decide +kernel
theorem d_TD_variable_16 : decode b_TD_variable 16 = .ok (.iload_n 1, 1) := by decide +kernel
theorem d_TD_variable_17 : decode b_TD_variable 17 = .ok (.iconst 1, 1) := by decide +kernel
theorem d_TD_variable_18 : decode b_TD_variable 18 = .ok (.if_icmp .lt 9, 3) := by decide +kernel
theorem d_TD_variable_21 : decode b_TD_variable 21 = .ok (.iload_n 1, 1) := by decide +kernel
theorem d_TD_variable_22 : decode b_TD_variable 22 = .ok (.ldc 45, 2) := by decide +kernel
theorem d_TD_variable_24 : decode b_TD_variable 24 = .ok (.if_icmp .le 5, 3) := by decide +kernel
theorem d_TD_variable_27 : decode b_TD_variable 27 = .ok (.iconst (-1), 1) := by decide +kernel
theorem d_TD_variable_28 : decode b_TD_variable 28 = .ok (.ireturn, 1) := by decide +kernel
theorem d_TD_variable_29 : decode b_TD_variable 29 = .ok (.aload_n 0, 1) := by decide +kernel
theorem d_TD_variable_30 : decode b_TD_variable 30 = .ok (.getfield 9, 3) := by decide +kernel
theorem d_TD_variable_33 : decode b_TD_variable 33 = .ok (.aload_n 0, 1) := by decide +kernel
theorem d_TD_variable_34 : decode b_TD_variable 34 = .ok (.getfield 37, 3) := by decide +kernel
theorem d_TD_variable_37 : decode b_TD_variable 37 = .ok (.iload_n 1, 1) := by decide +kernel
theorem d_TD_variable_38 : decode b_TD_variable 38 = .ok (.iastore, 1) := by decide +kernel
theorem d_TD_variable_39 : decode b_TD_variable 39 = .ok (.aload_n 0, 1) := by decide +kernel
theorem d_TD_variable_40 : decode b_TD_variable 40 = .ok (.dup, 1) := by decide +kernel
theorem d_TD_variable_41 : decode b_TD_variable 41 = .ok (.getfield 37, 3) := by decide +kernel
theorem d_TD_variable_44 : decode b_TD_variable 44 = .ok (.iconst 1, 1) := by decide +kernel
theorem d_TD_variable_45 : decode b_TD_variable 45 = .ok (.iadd, 1) := by decide +kernel
theorem d_TD_variable_46 : decode b_TD_variable 46 = .ok (.putfield 37, 3) := by decide +kernel
theorem d_TD_variable_49 : decode b_TD_variable 49 = .ok (.aload_n 0, 1) := by decide +kernel
theorem d_TD_variable_50 : decode b_TD_variable 50 = .ok (.getfield 37, 3) := by decide +kernel
theorem d_TD_variable_53 : decode b_TD_variable 53 = .ok (.iconst 1, 1) := by decide +kernel
theorem d_TD_variable_54 : decode b_TD_variable 54 = .ok (.isub, 1) := by decide +kernel
theorem d_TD_variable_55 : decode b_TD_variable 55 = .ok (.ireturn, 1) := by decide +kernel
theorem d_TD_entry_0 : decode b_TD_entry 0 = .ok (.aload_n 0, 1) := by decide +kernel
theorem d_TD_entry_1 : decode b_TD_entry 1 = .ok (.invokevirtual 41, 3) := by decide +kernel
theorem d_TD_entry_4 : decode b_TD_entry 4 = .ok (.ifCond .eq 35, 3) := by decide +kernel
theorem d_TD_entry_7 : decode b_TD_entry 7 = .ok (.iload_n 1, 1) := by decide +kernel
theorem d_TD_entry_8 : decode b_TD_entry 8 = .ok (.invokestatic 46, 3) := by decide +kernel
theorem d_TD_entry_11 : decode b_TD_entry 11 = .ok (.ifCond .eq 28, 3) := by decide +kernel
theorem d_TD_entry_14 : decode b_TD_entry 14 = .ok (.aload_n 0, 1) := by decide +kernel
theorem d_TD_entry_15 : decode b_TD_entry 15 = .ok (.getfield 19, 3) := by decide +kernel
theorem d_TD_entry_18 : decode b_TD_entry 18 = .ok (.iload_n 1, 1) := by decide +kernel
theorem d_TD_entry_19 : decode b_TD_entry 19 = .ok (.invokevirtual 50, 3) := by decide +kernel
theorem d_TD_entry_22 : decode b_TD_entry 22 = .ok (.ifCond .ne 17, 3) := by decide +kernel
theorem d_TD_entry_25 : decode b_TD_entry 25 = .ok (.aload_n 0, 1) := by decide +kernel
theorem d_TD_entry_26 : decode b_TD_entry 26 = .ok (.getfield 19, 3) := by decide +kernel
theorem d_TD_entry_29 : decode b_TD_entry 29 = .ok (.getfield 53, 3) := by decide +kernel
theorem d_TD_entry_32 : decode b_TD_entry 32 = .ok (.iload_n 1, 1) := by decide +kernel
theorem d_TD_entry_33 : decode b_TD_entry 33 = .ok (.invokevirtual 57, 3) := by decide +kernel
theorem d_TD_entry_36 : decode b_TD_entry 36 = .ok (.ifCond .eq 5, 3) := by decide +kernel
theorem d_TD_entry_39 : decode b_TD_entry 39 = .ok (.iconst 0, 1) := by decide +kernel
theorem d_TD_entry_40 : decode b_TD_entry 40 = .ok (.ireturn, 1) := by decide +kernel
theorem d_TD_entry_41 : decode b_TD_entry 41 = .ok (.iload_n 2, 1) := by decide +kernel
theorem d_TD_entry_42 : decode b_TD_entry 42 = .ok (.invokestatic 62, 3) := by decide +kernel
theorem d_TD_entry_45 : decode b_TD_entry 45 = .ok (.ifCond .eq 18, 3) := by decide +kernel
theorem d_TD_entry_48 : decode b_TD_entry 48 = .ok (.iload_n 3, 1) := by decide +kernel
theorem d_TD_entry_49 : decode b_TD_entry 49 = .ok (.invokestatic 62, 3) := by decide +kernel
theorem d_TD_entry_52 : decode b_TD_entry 52 = .ok (.ifCond .eq 11, 3) := by decide +kernel
theorem d_TD_entry_55 : decode b_TD_entry 55 = .ok (.iload 4, 2) := by decide +kernel
theorem d_TD_entry_57 : decode b_TD_entry 57 = .ok (.invokestatic 62, 3) := by decide +kernel
theorem d_TD_entry_60 : decode b_TD_entry 60 = .ok (.ifCond .ne 5, 3) := by decide +kernel
theorem d_TD_entry_63 : decode b_TD_entry 63 = .ok (.iconst 0, 1) := by decide +kernel
theorem d_TD_entry_64 : decode b_TD_entry 64 = .ok (.ireturn, 1) := by decide +kernel
theorem d_TD_entry_65 : decode b_TD_entry 65 = .ok (.aload_n 0, 1) := by decide +kernel
theorem d_TD_entry_66 : decode b_TD_entry 66 = .ok (.getfield 19, 3) := by decide +kernel
theorem d_TD_entry_69 : decode b_TD_entry 69 = .ok (.getfield 53, 3) := by decide +kernel
theorem d_TD_entry_72 : decode b_TD_entry 72 = .ok (.iload_n 1, 1) := by decide +kernel
theorem d_TD_entry_73 : decode b_TD_entry 73 = .ok (.iload_n 2, 1) := by decide +kernel
theorem d_TD_entry_74 : decode b_TD_entry 74 = .ok (.iload_n 3, 1) := by decide +kernel
theorem d_TD_entry_75 : decode b_TD_entry 75 = .ok (.iload 4, 2) := by decide +kernel
theorem d_TD_entry_77 : decode b_TD_entry 77 = .ok (.invokevirtual 65, 3) := by decide +kernel
theorem d_TD_entry_80 : decode b_TD_entry 80 = .ok (.iconst 1, 1) := by decide +kernel
theorem d_TD_entry_81 : decode b_TD_entry 81 = .ok (.ireturn, 1) := by decide +kernel
theorem d_TD_differ_0 : decode b_TD_differ 0 = .ok (.aload_n 0, 1) := by decide +kernel
theorem d_TD_differ_1 : decode b_TD_differ 1 = .ok (.iload_n 1, 1) := by decide +kernel
theorem d_TD_differ_2 : decode b_TD_differ 2 = .ok (.iload_n 2, 1) := by decide +kernel
theorem d_TD_differ_3 : decode b_TD_differ 3 = .ok (.iload_n 3, 1) := by decide +kernel
theorem d_TD_differ_4 : decode b_TD_differ 4 = .ok (.invokevirtual 69, 3) := by decide +kernel
theorem d_TD_differ_7 : decode b_TD_differ 7 = .ok (.ifCond .eq 18, 3) := by decide +kernel
theorem d_TD_differ_10 : decode b_TD_differ 10 = .ok (.aload_n 0, 1) := by decide +kernel
theorem d_TD_differ_11 : decode b_TD_differ 11 = .ok (.getfield 19, 3) := by decide +kernel
theorem d_TD_differ_14 : decode b_TD_differ 14 = .ok (.iconst 0, 1) := by decide +kernel
theorem d_TD_differ_15 : decode b_TD_differ 15 = .ok (.iload_n 1, 1) := by decide +kernel
theorem d_TD_differ_16 : decode b_TD_differ 16 = .ok (.iload_n 2, 1) := by decide +kernel
theorem d_TD_differ_17 : decode b_TD_differ 17 = .ok (.iconst (-1), 1) := by decide +kernel
theorem d_TD_differ_18 : decode b_TD_differ 18 = .ok (.iload_n 3, 1) := by decide +kernel
theorem d_TD_differ_19 : decode b_TD_differ 19 = .ok (.invokevirtual 73, 3) := by decide +kernel
theorem d_TD_differ_22 : decode b_TD_differ 22 = .ok (.goto 4, 3) := by decide +kernel
theorem d_TD_differ_25 : decode b_TD_differ 25 = .ok (.iconst (-1), 1) := by decide +kernel
theorem d_TD_differ_26 : decode b_TD_differ 26 = .ok (.ireturn, 1) := by decide +kernel
theorem d_TD_exceed_0 : decode b_TD_exceed 0 = .ok (.aload_n 0, 1) := by decide +kernel
theorem d_TD_exceed_1 : decode b_TD_exceed 1 = .ok (.iload_n 1, 1) := by decide +kernel
theorem d_TD_exceed_2 : decode b_TD_exceed 2 = .ok (.iload_n 2, 1) := by decide +kernel
theorem d_TD_exceed_3 : decode b_TD_exceed 3 = .ok (.iload_n 3, 1) := by decide +kernel
theorem d_TD_exceed_4 : decode b_TD_exceed 4 = .ok (.invokevirtual 69, 3) := by decide +kernel
theorem d_TD_exceed_7 : decode b_TD_exceed 7 = .ok (.ifCond .eq 18, 3) := by decide +kernel
theorem d_TD_exceed_10 : decode b_TD_exceed 10 = .ok (.aload_n 0, 1) := by decide +kernel
theorem d_TD_exceed_11 : decode b_TD_exceed 11 = .ok (.getfield 19, 3) := by decide +kernel
theorem d_TD_exceed_14 : decode b_TD_exceed 14 = .ok (.iconst 1, 1) := by decide +kernel
theorem d_TD_exceed_15 : decode b_TD_exceed 15 = .ok (.iload_n 1, 1) := by decide +kernel
theorem d_TD_exceed_16 : decode b_TD_exceed 16 = .ok (.iload_n 2, 1) := by decide +kernel
theorem d_TD_exceed_17 : decode b_TD_exceed 17 = .ok (.iconst (-1), 1) := by decide +kernel
theorem d_TD_exceed_18 : decode b_TD_exceed 18 = .ok (.iload_n 3, 1) := by decide +kernel
theorem d_TD_exceed_19 : decode b_TD_exceed 19 = .ok (.invokevirtual 73, 3) := by decide +kernel
theorem d_TD_exceed_22 : decode b_TD_exceed 22 = .ok (.goto 4, 3) := by decide +kernel
theorem d_TD_exceed_25 : decode b_TD_exceed 25 = .ok (.iconst (-1), 1) := by decide +kernel
theorem d_TD_exceed_26 : decode b_TD_exceed 26 = .ok (.ireturn, 1) := by decide +kernel
theorem d_TD_total_0 : decode b_TD_total 0 = .ok (.aload_n 0, 1) := by decide +kernel
theorem d_TD_total_1 : decode b_TD_total 1 = .ok (.invokevirtual 76, 3) := by decide +kernel
theorem d_TD_total_4 : decode b_TD_total 4 = .ok (.ifCond .eq 25, 3) := by decide +kernel
theorem d_TD_total_7 : decode b_TD_total 7 = .ok (.aload_n 0, 1) := by decide +kernel
theorem d_TD_total_8 : decode b_TD_total 8 = .ok (.iload_n 1, 1) := by decide +kernel
theorem d_TD_total_9 : decode b_TD_total 9 = .ok (.iload_n 2, 1) := by decide +kernel
theorem d_TD_total_10 : decode b_TD_total 10 = .ok (.iload_n 3, 1) := by decide +kernel
theorem d_TD_total_11 : decode b_TD_total 11 = .ok (.invokevirtual 79, 3) := by decide +kernel
theorem d_TD_total_14 : decode b_TD_total 14 = .ok (.ifCond .eq 15, 3) := by decide +kernel
theorem d_TD_total_17 : decode b_TD_total 17 = .ok (.iload 4, 2) := by decide +kernel
theorem d_TD_total_19 : decode b_TD_total 19 = .ok (.ifCond .lt 10, 3) := by decide +kernel
theorem d_TD_total_22 : decode b_TD_total 22 = .ok (.iload 4, 2) := by decide +kernel
theorem d_TD_total_24 : decode b_TD_total 24 = .ok (.bipush 45, 2) := by decide +kernel
theorem d_TD_total_26 : decode b_TD_total 26 = .ok (.if_icmp .le 5, 3) := by decide +kernel
theorem d_TD_total_29 : decode b_TD_total 29 = .ok (.iconst (-1), 1) := by decide +kernel
theorem d_TD_total_30 : decode b_TD_total 30 = .ok (.ireturn, 1) := by decide +kernel
theorem d_TD_total_31 : decode b_TD_total 31 = .ok (.aload_n 0, 1) := by decide +kernel
theorem d_TD_total_32 : decode b_TD_total 32 = .ok (.getfield 19, 3) := by decide +kernel
theorem d_TD_total_35 : decode b_TD_total 35 = .ok (.iconst 2, 1) := by decide +kernel
theorem d_TD_total_36 : decode b_TD_total 36 = .ok (.iload_n 1, 1) := by decide +kernel
theorem d_TD_total_37 : decode b_TD_total 37 = .ok (.iload_n 2, 1) := by decide +kernel
theorem d_TD_total_38 : decode b_TD_total 38 = .ok (.iload_n 3, 1) := by decide +kernel
theorem d_TD_total_39 : decode b_TD_total 39 = .ok (.iload 4, 2) := by decide +kernel
theorem d_TD_total_41 : decode b_TD_total 41 = .ok (.invokevirtual 73, 3) := by decide +kernel
theorem d_TD_total_44 : decode b_TD_total 44 = .ok (.ireturn, 1) := by decide +kernel
theorem d_TD_listed_0 : decode b_TD_listed 0 = .ok (.aload_n 0, 1) := by decide +kernel
theorem d_TD_listed_1 : decode b_TD_listed 1 = .ok (.invokevirtual 76, 3) := by decide +kernel
theorem d_TD_listed_4 : decode b_TD_listed 4 = .ok (.ifCond .eq 21, 3) := by decide +kernel
theorem d_TD_listed_7 : decode b_TD_listed 7 = .ok (.iload_n 1, 1) := by decide +kernel
theorem d_TD_listed_8 : decode b_TD_listed 8 = .ok (.invokestatic 46, 3) := by decide +kernel
theorem d_TD_listed_11 : decode b_TD_listed 11 = .ok (.ifCond .eq 14, 3) := by decide +kernel
theorem d_TD_listed_14 : decode b_TD_listed 14 = .ok (.aload_n 0, 1) := by decide +kernel
theorem d_TD_listed_15 : decode b_TD_listed 15 = .ok (.iload_n 2, 1) := by decide +kernel
theorem d_TD_listed_16 : decode b_TD_listed 16 = .ok (.iload_n 3, 1) := by decide +kernel
theorem d_TD_listed_17 : decode b_TD_listed 17 = .ok (.iload 4, 2) := by decide +kernel
theorem d_TD_listed_19 : decode b_TD_listed 19 = .ok (.invokevirtual 79, 3) := by decide +kernel
theorem d_TD_listed_22 : decode b_TD_listed 22 = .ok (.ifCond .ne 5, 3) := by decide +kernel
theorem d_TD_listed_25 : decode b_TD_listed 25 = .ok (.iconst (-1), 1) := by decide +kernel
theorem d_TD_listed_26 : decode b_TD_listed 26 = .ok (.ireturn, 1) := by decide +kernel
theorem d_TD_listed_27 : decode b_TD_listed 27 = .ok (.aload_n 0, 1) := by decide +kernel
theorem d_TD_listed_28 : decode b_TD_listed 28 = .ok (.getfield 19, 3) := by decide +kernel
theorem d_TD_listed_31 : decode b_TD_listed 31 = .ok (.iconst 3, 1) := by decide +kernel
theorem d_TD_listed_32 : decode b_TD_listed 32 = .ok (.iload_n 2, 1) := by decide +kernel
theorem d_TD_listed_33 : decode b_TD_listed 33 = .ok (.iload_n 3, 1) := by decide +kernel
theorem d_TD_listed_34 : decode b_TD_listed 34 = .ok (.iload 4, 2) := by decide +kernel
theorem d_TD_listed_36 : decode b_TD_listed 36 = .ok (.iload_n 1, 1) := by decide +kernel
theorem d_TD_listed_37 : decode b_TD_listed 37 = .ok (.invokevirtual 73, 3) := by decide +kernel
theorem d_TD_listed_40 : decode b_TD_listed 40 = .ok (.ireturn, 1) := by decide +kernel
theorem d_TD_remove_0 : decode b_TD_remove 0 = .ok (.aload_n 0, 1) := by decide +kernel
theorem d_TD_remove_1 : decode b_TD_remove 1 = .ok (.getfield 33, 3) := by decide +kernel
theorem d_TD_remove_4 : decode b_TD_remove 4 = .ok (.getfield 82, 3) := by decide +kernel
theorem d_TD_remove_7 : decode b_TD_remove 7 = .ok (.ifCond .ne 36, 3) := by decide +kernel
theorem d_TD_remove_10 : decode b_TD_remove 10 = .ok (.aload_n 0, 1) := by decide +kernel
theorem d_TD_remove_11 : decode b_TD_remove 11 = .ok (.iload_n 1, 1) := by decide +kernel
theorem d_TD_remove_12 : decode b_TD_remove 12 = .ok (.invokevirtual 86, 3) := by decide +kernel
theorem d_TD_remove_15 : decode b_TD_remove 15 = .ok (.ifCond .eq 28, 3) := by decide +kernel
theorem d_TD_remove_18 : decode b_TD_remove 18 = .ok (.aload_n 0, 1) := by decide +kernel
theorem d_TD_remove_19 : decode b_TD_remove 19 = .ok (.getfield 9, 3) := by decide +kernel
theorem d_TD_remove_22 : decode b_TD_remove 22 = .ok (.iload_n 1, 1) := by decide +kernel
theorem d_TD_remove_23 : decode b_TD_remove 23 = .ok (.iaload, 1) := by decide +kernel
theorem d_TD_remove_24 : decode b_TD_remove 24 = .ok (.iload_n 2, 1) := by decide +kernel
theorem d_TD_remove_25 : decode b_TD_remove 25 = .ok (.invokestatic 89, 3) := by decide +kernel
theorem d_TD_remove_28 : decode b_TD_remove 28 = .ok (.ifCond .eq 15, 3) := by decide +kernel
theorem d_TD_remove_31 : decode b_TD_remove 31 = .ok (.aload_n 0, 1) := by decide +kernel
theorem d_TD_remove_32 : decode b_TD_remove 32 = .ok (.getfield 9, 3) := by decide +kernel
theorem d_TD_remove_35 : decode b_TD_remove 35 = .ok (.iload_n 1, 1) := by decide +kernel
theorem d_TD_remove_36 : decode b_TD_remove 36 = .ok (.iaload, 1) := by decide +kernel
theorem d_TD_remove_37 : decode b_TD_remove 37 = .ok (.invokestatic 93, 3) := by decide +kernel
theorem d_TD_remove_40 : decode b_TD_remove 40 = .ok (.ifCond .ne 5, 3) := by decide +kernel
theorem d_TD_remove_43 : decode b_TD_remove 43 = .ok (.iconst 0, 1) := by decide +kernel
theorem d_TD_remove_44 : decode b_TD_remove 44 = .ok (.ireturn, 1) := by decide +kernel
theorem d_TD_remove_45 : decode b_TD_remove 45 = .ok (.aload_n 0, 1) := by decide +kernel
theorem d_TD_remove_46 : decode b_TD_remove 46 = .ok (.getfield 9, 3) := by decide +kernel
theorem d_TD_remove_49 : decode b_TD_remove 49 = .ok (.iload_n 1, 1) := by decide +kernel
theorem d_TD_remove_50 : decode b_TD_remove 50 = .ok (.dup2, 1) := by decide +kernel
theorem d_TD_remove_51 : decode b_TD_remove 51 = .ok (.iaload, 1) := by decide +kernel
theorem d_TD_remove_52 : decode b_TD_remove 52 = .ok (.iconst 1, 1) := by decide +kernel
theorem d_TD_remove_53 : decode b_TD_remove 53 = .ok (.iload_n 2, 1) := by decide +kernel
theorem d_TD_remove_54 : decode b_TD_remove 54 = .ok (.ishl, 1) := by decide +kernel
theorem d_TD_remove_55 : decode b_TD_remove 55 = .ok (.ixor, 1) := by decide +kernel
theorem d_TD_remove_56 : decode b_TD_remove 56 = .ok (.iastore, 1) := by decide +kernel
theorem d_TD_remove_57 : decode b_TD_remove 57 = .ok (.iconst 1, 1) := by decide +kernel
theorem d_TD_remove_58 : decode b_TD_remove 58 = .ok (.ireturn, 1) := by decide +kernel
theorem d_TD_close_0 : decode b_TD_close 0 = .ok (.aload_n 0, 1) := by decide +kernel
theorem d_TD_close_1 : decode b_TD_close 1 = .ok (.getfield 33, 3) := by decide +kernel
theorem d_TD_close_4 : decode b_TD_close 4 = .ok (.getfield 82, 3) := by decide +kernel
theorem d_TD_close_7 : decode b_TD_close 7 = .ok (.ifCond .eq 5, 3) := by decide +kernel
theorem d_TD_close_10 : decode b_TD_close 10 = .ok (.iconst (-1), 1) := by decide +kernel
theorem d_TD_close_11 : decode b_TD_close 11 = .ok (.ireturn, 1) := by decide +kernel
theorem d_TD_close_12 : decode b_TD_close 12 = .ok (.aload_n 0, 1) := by decide +kernel
theorem d_TD_close_13 : decode b_TD_close 13 = .ok (.getfield 9, 3) := by decide +kernel
theorem d_TD_close_16 : decode b_TD_close 16 = .ok (.iconst 0, 1) := by decide +kernel
theorem d_TD_close_17 : decode b_TD_close 17 = .ok (.aload_n 0, 1) := by decide +kernel
theorem d_TD_close_18 : decode b_TD_close 18 = .ok (.getfield 13, 3) := by decide +kernel
theorem d_TD_close_21 : decode b_TD_close 21 = .ok (.iconst 0, 1) := by decide +kernel
theorem d_TD_close_22 : decode b_TD_close 22 = .ok (.bipush 8, 2) := by decide +kernel
theorem d_TD_close_24 : decode b_TD_close 24 = .ok (.invokestatic 96, 3) := by decide +kernel
theorem d_TD_close_27 : decode b_TD_close 27 = .ok (.aload_n 0, 1) := by decide +kernel
theorem d_TD_close_28 : decode b_TD_close 28 = .ok (.getfield 19, 3) := by decide +kernel
theorem d_TD_close_31 : decode b_TD_close 31 = .ok (.aload_n 0, 1) := by decide +kernel
theorem d_TD_close_32 : decode b_TD_close 32 = .ok (.getfield 9, 3) := by decide +kernel
theorem d_TD_close_35 : decode b_TD_close 35 = .ok (.invokevirtual 102, 3) := by decide +kernel
theorem d_TD_close_38 : decode b_TD_close 38 = .ok (.ifCond .ne 20, 3) := by decide +kernel
theorem d_TD_close_41 : decode b_TD_close 41 = .ok (.aload_n 0, 1) := by decide +kernel
theorem d_TD_close_42 : decode b_TD_close 42 = .ok (.getfield 13, 3) := by decide +kernel
theorem d_TD_close_45 : decode b_TD_close 45 = .ok (.iconst 0, 1) := by decide +kernel
theorem d_TD_close_46 : decode b_TD_close 46 = .ok (.aload_n 0, 1) := by decide +kernel
theorem d_TD_close_47 : decode b_TD_close 47 = .ok (.getfield 9, 3) := by decide +kernel
theorem d_TD_close_50 : decode b_TD_close 50 = .ok (.iconst 0, 1) := by decide +kernel
theorem d_TD_close_51 : decode b_TD_close 51 = .ok (.bipush 8, 2) := by decide +kernel
theorem d_TD_close_53 : decode b_TD_close 53 = .ok (.invokestatic 96, 3) := by decide +kernel
theorem d_TD_close_56 : decode b_TD_close 56 = .ok (.iconst (-1), 1) := by decide +kernel
theorem d_TD_close_57 : decode b_TD_close 57 = .ok (.ireturn, 1) := by decide +kernel
theorem d_TD_close_58 : decode b_TD_close 58 = .ok (.aload_n 0, 1) := by decide +kernel
theorem d_TD_close_59 : decode b_TD_close 59 = .ok (.getfield 13, 3) := by decide +kernel
theorem d_TD_close_62 : decode b_TD_close 62 = .ok (.invokestatic 106, 3) := by decide +kernel
theorem d_TD_close_65 : decode b_TD_close 65 = .ok (.aload_n 0, 1) := by decide +kernel
theorem d_TD_close_66 : decode b_TD_close 66 = .ok (.getfield 9, 3) := by decide +kernel
theorem d_TD_close_69 : decode b_TD_close 69 = .ok (.invokestatic 106, 3) := by decide +kernel
theorem d_TD_close_72 : decode b_TD_close 72 = .ok (.isub, 1) := by decide +kernel
theorem d_TD_close_73 : decode b_TD_close 73 = .ok (.ireturn, 1) := by decide +kernel
theorem d_TD_push_0 : decode b_TD_push 0 = .ok (.aload_n 0, 1) := by decide +kernel
theorem d_TD_push_1 : decode b_TD_push 1 = .ok (.getfield 33, 3) := by decide +kernel
theorem d_TD_push_4 : decode b_TD_push 4 = .ok (.getfield 82, 3) := by decide +kernel
theorem d_TD_push_7 : decode b_TD_push 7 = .ok (.ifCond .ne 15, 3) := by decide +kernel
theorem d_TD_push_10 : decode b_TD_push 10 = .ok (.aload_n 0, 1) := by decide +kernel
theorem d_TD_push_11 : decode b_TD_push 11 = .ok (.getfield 26, 3) := by decide +kernel
theorem d_TD_push_14 : decode b_TD_push 14 = .ok (.getfield 110, 3) := by decide +kernel
theorem d_TD_push_17 : decode b_TD_push 17 = .ok (.bipush 10, 2) := by decide +kernel
theorem d_TD_push_19 : decode b_TD_push 19 = .ok (.if_icmp .ne 5, 3) := by decide +kernel
theorem d_TD_push_22 : decode b_TD_push 22 = .ok (.iconst (-1), 1) := by decide +kernel
theorem d_TD_push_23 : decode b_TD_push 23 = .ok (.ireturn, 1) := by decide +kernel
theorem d_TD_push_24 : decode b_TD_push 24 = .ok (.aload_n 0, 1) := by decide +kernel
theorem d_TD_push_25 : decode b_TD_push 25 = .ok (.getfield 26, 3) := by decide +kernel
theorem d_TD_push_28 : decode b_TD_push 28 = .ok (.aload_n 0, 1) := by decide +kernel
theorem d_TD_push_29 : decode b_TD_push 29 = .ok (.getfield 9, 3) := by decide +kernel
theorem d_TD_push_32 : decode b_TD_push 32 = .ok (.aload_n 0, 1) := by decide +kernel
theorem d_TD_push_33 : decode b_TD_push 33 = .ok (.getfield 19, 3) := by decide +kernel
theorem d_TD_push_36 : decode b_TD_push 36 = .ok (.getfield 113, 3) := by decide +kernel
theorem d_TD_push_39 : decode b_TD_push 39 = .ok (.invokevirtual 116, 3) := by decide +kernel
theorem d_TD_push_42 : decode b_TD_push 42 = .ok (.aload_n 0, 1) := by decide +kernel
theorem d_TD_push_43 : decode b_TD_push 43 = .ok (.getfield 26, 3) := by decide +kernel
theorem d_TD_push_46 : decode b_TD_push 46 = .ok (.getfield 110, 3) := by decide +kernel
theorem d_TD_push_49 : decode b_TD_push 49 = .ok (.ireturn, 1) := by decide +kernel
theorem d_TD_pop_0 : decode b_TD_pop 0 = .ok (.aload_n 0, 1) := by decide +kernel
theorem d_TD_pop_1 : decode b_TD_pop 1 = .ok (.getfield 33, 3) := by decide +kernel
theorem d_TD_pop_4 : decode b_TD_pop 4 = .ok (.getfield 82, 3) := by decide +kernel
theorem d_TD_pop_7 : decode b_TD_pop 7 = .ok (.ifCond .ne 13, 3) := by decide +kernel
theorem d_TD_pop_10 : decode b_TD_pop 10 = .ok (.aload_n 0, 1) := by decide +kernel
theorem d_TD_pop_11 : decode b_TD_pop 11 = .ok (.getfield 26, 3) := by decide +kernel
theorem d_TD_pop_14 : decode b_TD_pop 14 = .ok (.getfield 110, 3) := by decide +kernel
theorem d_TD_pop_17 : decode b_TD_pop 17 = .ok (.ifCond .ne 5, 3) := by decide +kernel
theorem d_TD_pop_20 : decode b_TD_pop 20 = .ok (.iconst (-1), 1) := by decide +kernel
theorem d_TD_pop_21 : decode b_TD_pop 21 = .ok (.ireturn, 1) := by decide +kernel
theorem d_TD_pop_22 : decode b_TD_pop 22 = .ok (.aload_n 0, 1) := by decide +kernel
theorem d_TD_pop_23 : decode b_TD_pop 23 = .ok (.getfield 19, 3) := by decide +kernel
theorem d_TD_pop_26 : decode b_TD_pop 26 = .ok (.aload_n 0, 1) := by decide +kernel
theorem d_TD_pop_27 : decode b_TD_pop 27 = .ok (.getfield 26, 3) := by decide +kernel
theorem d_TD_pop_30 : decode b_TD_pop 30 = .ok (.aload_n 0, 1) := by decide +kernel
theorem d_TD_pop_31 : decode b_TD_pop 31 = .ok (.getfield 9, 3) := by decide +kernel
theorem d_TD_pop_34 : decode b_TD_pop 34 = .ok (.invokevirtual 120, 3) := by decide +kernel
theorem d_TD_pop_37 : decode b_TD_pop 37 = .ok (.putfield 113, 3) := by decide +kernel
theorem d_TD_pop_40 : decode b_TD_pop 40 = .ok (.aload_n 0, 1) := by decide +kernel
theorem d_TD_pop_41 : decode b_TD_pop 41 = .ok (.getfield 26, 3) := by decide +kernel
theorem d_TD_pop_44 : decode b_TD_pop 44 = .ok (.getfield 110, 3) := by decide +kernel
theorem d_TD_pop_47 : decode b_TD_pop 47 = .ok (.ireturn, 1) := by decide +kernel
theorem d_TD_search_0 : decode b_TD_search 0 = .ok (.aload_n 0, 1) := by decide +kernel
theorem d_TD_search_1 : decode b_TD_search 1 = .ok (.getfield 33, 3) := by decide +kernel
theorem d_TD_search_4 : decode b_TD_search 4 = .ok (.getfield 82, 3) := by decide +kernel
theorem d_TD_search_7 : decode b_TD_search 7 = .ok (.ifCond .eq 5, 3) := by decide +kernel
theorem d_TD_search_10 : decode b_TD_search 10 = .ok (.iconst 0, 1) := by decide +kernel
theorem d_TD_search_11 : decode b_TD_search 11 = .ok (.ireturn, 1) := by decide +kernel
theorem d_TD_search_12 : decode b_TD_search 12 = .ok (.aload_n 0, 1) := by decide +kernel
theorem d_TD_search_13 : decode b_TD_search 13 = .ok (.getfield 33, 3) := by decide +kernel
theorem d_TD_search_16 : decode b_TD_search 16 = .ok (.aload_n 0, 1) := by decide +kernel
theorem d_TD_search_17 : decode b_TD_search 17 = .ok (.getfield 9, 3) := by decide +kernel
theorem d_TD_search_20 : decode b_TD_search 20 = .ok (.invokevirtual 123, 3) := by decide +kernel
theorem d_TD_search_23 : decode b_TD_search 23 = .ok (.iconst 1, 1) := by decide +kernel
theorem d_TD_search_24 : decode b_TD_search 24 = .ok (.ireturn, 1) := by decide +kernel
theorem d_TD_advance_0 : decode b_TD_advance 0 = .ok (.aload_n 0, 1) := by decide +kernel
theorem d_TD_advance_1 : decode b_TD_advance 1 = .ok (.getfield 33, 3) := by decide +kernel
theorem d_TD_advance_4 : decode b_TD_advance 4 = .ok (.getfield 82, 3) := by decide +kernel
theorem d_TD_advance_7 : decode b_TD_advance 7 = .ok (.ifCond .eq 14, 3) := by decide +kernel
theorem d_TD_advance_10 : decode b_TD_advance 10 = .ok (.iload_n 1, 1) := by decide +kernel
theorem d_TD_advance_11 : decode b_TD_advance 11 = .ok (.iconst 1, 1) := by decide +kernel
theorem d_TD_advance_12 : decode b_TD_advance 12 = .ok (.if_icmp .lt 9, 3) := by decide +kernel
theorem d_TD_advance_15 : decode b_TD_advance 15 = .ok (.iload_n 1, 1) := by decide +kernel
theorem d_TD_advance_16 : decode b_TD_advance 16 = .ok (.bipush 20, 2) := by decide +kernel
theorem d_TD_advance_18 : decode b_TD_advance 18 = .ok (.if_icmp .le 5, 3) := by decide +kernel
theorem d_TD_advance_21 : decode b_TD_advance 21 = .ok (.iconst (-1), 1) := by decide +kernel
theorem d_TD_advance_22 : decode b_TD_advance 22 = .ok (.ireturn, 1) := by decide +kernel
theorem d_TD_advance_23 : decode b_TD_advance 23 = .ok (.iconst 0, 1) := by decide +kernel
theorem d_TD_advance_24 : decode b_TD_advance 24 = .ok (.istore_n 2, 1) := by decide +kernel
theorem d_TD_advance_25 : decode b_TD_advance 25 = .ok (.iload_n 2, 1) := by decide +kernel
theorem d_TD_advance_26 : decode b_TD_advance 26 = .ok (.iload_n 1, 1) := by decide +kernel
theorem d_TD_advance_27 : decode b_TD_advance 27 = .ok (.if_icmp .ge 56, 3) := by decide +kernel
theorem d_TD_advance_30 : decode b_TD_advance 30 = .ok (.aload_n 0, 1) := by decide +kernel
theorem d_TD_advance_31 : decode b_TD_advance 31 = .ok (.getfield 33, 3) := by decide +kernel
theorem d_TD_advance_34 : decode b_TD_advance 34 = .ok (.aload_n 0, 1) := by decide +kernel
theorem d_TD_advance_35 : decode b_TD_advance 35 = .ok (.getfield 9, 3) := by decide +kernel
theorem d_TD_advance_38 : decode b_TD_advance 38 = .ok (.invokevirtual 127, 3) := by decide +kernel
theorem d_TD_advance_41 : decode b_TD_advance 41 = .ok (.ifCond .ne 16, 3) := by decide +kernel
theorem d_TD_advance_44 : decode b_TD_advance 44 = .ok (.aload_n 0, 1) := by decide +kernel
theorem d_TD_advance_45 : decode b_TD_advance 45 = .ok (.getfield 33, 3) := by decide +kernel
theorem d_TD_advance_48 : decode b_TD_advance 48 = .ok (.aload_n 0, 1) := by decide +kernel
theorem d_TD_advance_49 : decode b_TD_advance 49 = .ok (.getfield 9, 3) := by decide +kernel
theorem d_TD_advance_52 : decode b_TD_advance 52 = .ok (.invokevirtual 130, 3) := by decide +kernel
theorem d_TD_advance_55 : decode b_TD_advance 55 = .ok (.iconst 0, 1) := by decide +kernel
theorem d_TD_advance_56 : decode b_TD_advance 56 = .ok (.ireturn, 1) := by decide +kernel
theorem d_TD_advance_57 : decode b_TD_advance 57 = .ok (.aload_n 0, 1) := by decide +kernel
theorem d_TD_advance_58 : decode b_TD_advance 58 = .ok (.getfield 33, 3) := by decide +kernel
theorem d_TD_advance_61 : decode b_TD_advance 61 = .ok (.aload_n 0, 1) := by decide +kernel
theorem d_TD_advance_62 : decode b_TD_advance 62 = .ok (.getfield 19, 3) := by decide +kernel
theorem d_TD_advance_65 : decode b_TD_advance 65 = .ok (.aload_n 0, 1) := by decide +kernel
theorem d_TD_advance_66 : decode b_TD_advance 66 = .ok (.getfield 9, 3) := by decide +kernel
theorem d_TD_advance_69 : decode b_TD_advance 69 = .ok (.invokevirtual 133, 3) := by decide +kernel
theorem d_TD_advance_72 : decode b_TD_advance 72 = .ok (.ifCond .eq 5, 3) := by decide +kernel
theorem d_TD_advance_75 : decode b_TD_advance 75 = .ok (.iconst 2, 1) := by decide +kernel
theorem d_TD_advance_76 : decode b_TD_advance 76 = .ok (.ireturn, 1) := by decide +kernel
theorem d_TD_advance_77 : decode b_TD_advance 77 = .ok (.iinc 2 1, 3) := by decide +kernel
theorem d_TD_advance_80 : decode b_TD_advance 80 = .ok (.goto (-55), 3) := by decide +kernel
theorem d_TD_advance_83 : decode b_TD_advance 83 = .ok (.iconst 1, 1) := by decide +kernel
theorem d_TD_advance_84 : decode b_TD_advance 84 = .ok (.ireturn, 1) := by decide +kernel
theorem d_TD_stop_0 : decode b_TD_stop 0 = .ok (.aload_n 0, 1) := by decide +kernel
theorem d_TD_stop_1 : decode b_TD_stop 1 = .ok (.getfield 33, 3) := by decide +kernel
theorem d_TD_stop_4 : decode b_TD_stop 4 = .ok (.getfield 82, 3) := by decide +kernel
theorem d_TD_stop_7 : decode b_TD_stop 7 = .ok (.ifCond .ne 5, 3) := by decide +kernel
theorem d_TD_stop_10 : decode b_TD_stop 10 = .ok (.iconst 0, 1) := by decide +kernel
theorem d_TD_stop_11 : decode b_TD_stop 11 = .ok (.ireturn, 1) := by decide +kernel
theorem d_TD_stop_12 : decode b_TD_stop 12 = .ok (.aload_n 0, 1) := by decide +kernel
theorem d_TD_stop_13 : decode b_TD_stop 13 = .ok (.getfield 33, 3) := by decide +kernel
theorem d_TD_stop_16 : decode b_TD_stop 16 = .ok (.aload_n 0, 1) := by decide +kernel
theorem d_TD_stop_17 : decode b_TD_stop 17 = .ok (.getfield 9, 3) := by decide +kernel
theorem d_TD_stop_20 : decode b_TD_stop 20 = .ok (.invokevirtual 130, 3) := by decide +kernel
theorem d_TD_stop_23 : decode b_TD_stop 23 = .ok (.iconst 1, 1) := by decide +kernel
theorem d_TD_stop_24 : decode b_TD_stop 24 = .ok (.ireturn, 1) := by decide +kernel
theorem d_TD_domain_0 : decode b_TD_domain 0 = .ok (.aload_n 0, 1) := by decide +kernel
theorem d_TD_domain_1 : decode b_TD_domain 1 = .ok (.iload_n 1, 1) := by decide +kernel
theorem d_TD_domain_2 : decode b_TD_domain 2 = .ok (.invokevirtual 86, 3) := by decide +kernel
theorem d_TD_domain_5 : decode b_TD_domain 5 = .ok (.ifCond .eq 12, 3) := by decide +kernel
theorem d_TD_domain_8 : decode b_TD_domain 8 = .ok (.aload_n 0, 1) := by decide +kernel
theorem d_TD_domain_9 : decode b_TD_domain 9 = .ok (.getfield 9, 3) := by decide +kernel
theorem d_TD_domain_12 : decode b_TD_domain 12 = .ok (.iload_n 1, 1) := by decide +kernel
theorem d_TD_domain_13 : decode b_TD_domain 13 = .ok (.iaload, 1) := by decide +kernel
theorem d_TD_domain_14 : decode b_TD_domain 14 = .ok (.goto 4, 3) := by decide +kernel
theorem d_TD_domain_17 : decode b_TD_domain 17 = .ok (.iconst (-1), 1) := by decide +kernel
theorem d_TD_domain_18 : decode b_TD_domain 18 = .ok (.ireturn, 1) := by decide +kernel
theorem d_TD_supports_0 : decode b_TD_supports 0 = .ok (.iload_n 1, 1) := by decide +kernel
theorem d_TD_supports_1 : decode b_TD_supports 1 = .ok (.ifCond .lt 32, 3) := by decide +kernel
theorem d_TD_supports_4 : decode b_TD_supports 4 = .ok (.iload_n 1, 1) := by decide +kernel
theorem d_TD_supports_5 : decode b_TD_supports 5 = .ok (.aload_n 0, 1) := by decide +kernel
theorem d_TD_supports_6 : decode b_TD_supports 6 = .ok (.getfield 19, 3) := by decide +kernel
theorem d_TD_supports_9 : decode b_TD_supports 9 = .ok (.getfield 113, 3) := by decide +kernel
theorem d_TD_supports_12 : decode b_TD_supports 12 = .ok (.if_icmp .ge 21, 3) := by decide +kernel
theorem d_TD_supports_15 : decode b_TD_supports 15 = .ok (.aload_n 0, 1) := by decide +kernel
theorem d_TD_supports_16 : decode b_TD_supports 16 = .ok (.iload_n 2, 1) := by decide +kernel
theorem d_TD_supports_17 : decode b_TD_supports 17 = .ok (.invokevirtual 86, 3) := by decide +kernel
theorem d_TD_supports_20 : decode b_TD_supports 20 = .ok (.ifCond .eq 13, 3) := by decide +kernel
theorem d_TD_supports_23 : decode b_TD_supports 23 = .ok (.iload_n 3, 1) := by decide +kernel
theorem d_TD_supports_24 : decode b_TD_supports 24 = .ok (.ifCond .lt 9, 3) := by decide +kernel
theorem d_TD_supports_27 : decode b_TD_supports 27 = .ok (.iload_n 3, 1) := by decide +kernel
theorem d_TD_supports_28 : decode b_TD_supports 28 = .ok (.bipush 16, 2) := by decide +kernel
theorem d_TD_supports_30 : decode b_TD_supports 30 = .ok (.if_icmp .lt 5, 3) := by decide +kernel
theorem d_TD_supports_33 : decode b_TD_supports 33 = .ok (.iconst (-1), 1) := by decide +kernel
theorem d_TD_supports_34 : decode b_TD_supports 34 = .ok (.ireturn, 1) := by decide +kernel
theorem d_TD_supports_35 : decode b_TD_supports 35 = .ok (.aload_n 0, 1) := by decide +kernel
theorem d_TD_supports_36 : decode b_TD_supports 36 = .ok (.getfield 19, 3) := by decide +kernel
theorem d_TD_supports_39 : decode b_TD_supports 39 = .ok (.iload_n 1, 1) := by decide +kernel
theorem d_TD_supports_40 : decode b_TD_supports 40 = .ok (.iload_n 2, 1) := by decide +kernel
theorem d_TD_supports_41 : decode b_TD_supports 41 = .ok (.invokevirtual 137, 3) := by decide +kernel
theorem d_TD_supports_44 : decode b_TD_supports 44 = .ok (.istore 4, 2) := by decide +kernel
theorem d_TD_supports_46 : decode b_TD_supports 46 = .ok (.iload 4, 2) := by decide +kernel
theorem d_TD_supports_48 : decode b_TD_supports 48 = .ok (.ifCond .ge 7, 3) := by decide +kernel
theorem d_TD_supports_51 : decode b_TD_supports 51 = .ok (.iconst (-1), 1) := by decide +kernel
theorem d_TD_supports_52 : decode b_TD_supports 52 = .ok (.goto 18, 3) := by decide +kernel
theorem d_TD_supports_55 : decode b_TD_supports 55 = .ok (.aload_n 0, 1) := by decide +kernel
theorem d_TD_supports_56 : decode b_TD_supports 56 = .ok (.getfield 19, 3) := by decide +kernel
theorem d_TD_supports_59 : decode b_TD_supports 59 = .ok (.iload_n 1, 1) := by decide +kernel
theorem d_TD_supports_60 : decode b_TD_supports 60 = .ok (.iload 4, 2) := by decide +kernel
theorem d_TD_supports_62 : decode b_TD_supports 62 = .ok (.iload_n 3, 1) := by decide +kernel
theorem d_TD_supports_63 : decode b_TD_supports 63 = .ok (.aload_n 0, 1) := by decide +kernel
theorem d_TD_supports_64 : decode b_TD_supports 64 = .ok (.getfield 9, 3) := by decide +kernel
theorem d_TD_supports_67 : decode b_TD_supports 67 = .ok (.invokevirtual 141, 3) := by decide +kernel
theorem d_TD_supports_70 : decode b_TD_supports 70 = .ok (.ireturn, 1) := by decide +kernel
theorem d_TD_rules_0 : decode b_TD_rules 0 = .ok (.aload_n 0, 1) := by decide +kernel
theorem d_TD_rules_1 : decode b_TD_rules 1 = .ok (.getfield 19, 3) := by decide +kernel
theorem d_TD_rules_4 : decode b_TD_rules 4 = .ok (.getfield 113, 3) := by decide +kernel
theorem d_TD_rules_7 : decode b_TD_rules 7 = .ok (.ireturn, 1) := by decide +kernel
theorem d_TD_depth_0 : decode b_TD_depth 0 = .ok (.aload_n 0, 1) := by decide +kernel
theorem d_TD_depth_1 : decode b_TD_depth 1 = .ok (.getfield 33, 3) := by decide +kernel
theorem d_TD_depth_4 : decode b_TD_depth 4 = .ok (.getfield 82, 3) := by decide +kernel
theorem d_TD_depth_7 : decode b_TD_depth 7 = .ok (.ifCond .eq 17, 3) := by decide +kernel
theorem d_TD_depth_10 : decode b_TD_depth 10 = .ok (.aload_n 0, 1) := by decide +kernel
theorem d_TD_depth_11 : decode b_TD_depth 11 = .ok (.getfield 33, 3) := by decide +kernel
theorem d_TD_depth_14 : decode b_TD_depth 14 = .ok (.getfield 145, 3) := by decide +kernel
theorem d_TD_depth_17 : decode b_TD_depth 17 = .ok (.iconst 0, 1) := by decide +kernel
theorem d_TD_depth_18 : decode b_TD_depth 18 = .ok (.invokestatic 148, 3) := by decide +kernel
theorem d_TD_depth_21 : decode b_TD_depth 21 = .ok (.goto 4, 3) := by decide +kernel
theorem d_TD_depth_24 : decode b_TD_depth 24 = .ok (.iconst (-1), 1) := by decide +kernel
theorem d_TD_depth_25 : decode b_TD_depth 25 = .ok (.ireturn, 1) := by decide +kernel
theorem d_TD_visits_0 : decode b_TD_visits 0 = .ok (.aload_n 0, 1) := by decide +kernel
theorem d_TD_visits_1 : decode b_TD_visits 1 = .ok (.getfield 33, 3) := by decide +kernel
theorem d_TD_visits_4 : decode b_TD_visits 4 = .ok (.getfield 153, 3) := by decide +kernel
theorem d_TD_visits_7 : decode b_TD_visits 7 = .ok (.ireturn, 1) := by decide +kernel
theorem d_TD_fails_0 : decode b_TD_fails 0 = .ok (.aload_n 0, 1) := by decide +kernel
theorem d_TD_fails_1 : decode b_TD_fails 1 = .ok (.getfield 33, 3) := by decide +kernel
theorem d_TD_fails_4 : decode b_TD_fails 4 = .ok (.getfield 156, 3) := by decide +kernel
theorem d_TD_fails_7 : decode b_TD_fails 7 = .ok (.ireturn, 1) := by decide +kernel
theorem d_TD_found_0 : decode b_TD_found 0 = .ok (.aload_n 0, 1) := by decide +kernel
theorem d_TD_found_1 : decode b_TD_found 1 = .ok (.getfield 33, 3) := by decide +kernel
theorem d_TD_found_4 : decode b_TD_found 4 = .ok (.getfield 159, 3) := by decide +kernel
theorem d_TD_found_7 : decode b_TD_found 7 = .ok (.ireturn, 1) := by decide +kernel
theorem d_TD_mayExtend_0 : decode b_TD_mayExtend 0 = .ok (.aload_n 0, 1) := by decide +kernel
theorem d_TD_mayExtend_1 : decode b_TD_mayExtend 1 = .ok (.getfield 33, 3) := by decide +kernel
theorem d_TD_mayExtend_4 : decode b_TD_mayExtend 4 = .ok (.getfield 82, 3) := by decide +kernel
theorem d_TD_mayExtend_7 : decode b_TD_mayExtend 7 = .ok (.ifCond .ne 17, 3) := by decide +kernel
theorem d_TD_mayExtend_10 : decode b_TD_mayExtend 10 = .ok (.aload_n 0, 1) := by decide +kernel
theorem d_TD_mayExtend_11 : decode b_TD_mayExtend 11 = .ok (.getfield 26, 3) := by decide +kernel
theorem d_TD_mayExtend_14 : decode b_TD_mayExtend 14 = .ok (.getfield 110, 3) := by decide +kernel
theorem d_TD_mayExtend_17 : decode b_TD_mayExtend 17 = .ok (.ifCond .ne 7, 3) := by decide +kernel
theorem d_TD_mayExtend_20 : decode b_TD_mayExtend 20 = .ok (.iconst 1, 1) := by decide +kernel
theorem d_TD_mayExtend_21 : decode b_TD_mayExtend 21 = .ok (.goto 4, 3) := by decide +kernel
theorem d_TD_mayExtend_24 : decode b_TD_mayExtend 24 = .ok (.iconst 0, 1) := by decide +kernel
theorem d_TD_mayExtend_25 : decode b_TD_mayExtend 25 = .ok (.ireturn, 1) := by decide +kernel
theorem d_TD_mayMakeRule_0 : decode b_TD_mayMakeRule 0 = .ok (.aload_n 0, 1) := by decide +kernel
theorem d_TD_mayMakeRule_1 : decode b_TD_mayMakeRule 1 = .ok (.getfield 33, 3) := by decide +kernel
theorem d_TD_mayMakeRule_4 : decode b_TD_mayMakeRule 4 = .ok (.getfield 82, 3) := by decide +kernel
theorem d_TD_mayMakeRule_7 : decode b_TD_mayMakeRule 7 = .ok (.ifCond .ne 19, 3) := by decide +kernel
theorem d_TD_mayMakeRule_10 : decode b_TD_mayMakeRule 10 = .ok (.aload_n 0, 1) := by decide +kernel
theorem d_TD_mayMakeRule_11 : decode b_TD_mayMakeRule 11 = .ok (.getfield 19, 3) := by decide +kernel
theorem d_TD_mayMakeRule_14 : decode b_TD_mayMakeRule 14 = .ok (.getfield 113, 3) := by decide +kernel
theorem d_TD_mayMakeRule_17 : decode b_TD_mayMakeRule 17 = .ok (.bipush 16, 2) := by decide +kernel
theorem d_TD_mayMakeRule_19 : decode b_TD_mayMakeRule 19 = .ok (.if_icmp .ge 7, 3) := by decide +kernel
theorem d_TD_mayMakeRule_22 : decode b_TD_mayMakeRule 22 = .ok (.iconst 1, 1) := by decide +kernel
theorem d_TD_mayMakeRule_23 : decode b_TD_mayMakeRule 23 = .ok (.goto 4, 3) := by decide +kernel
theorem d_TD_mayMakeRule_26 : decode b_TD_mayMakeRule 26 = .ok (.iconst 0, 1) := by decide +kernel
theorem d_TD_mayMakeRule_27 : decode b_TD_mayMakeRule 27 = .ok (.ireturn, 1) := by decide +kernel
theorem d_TD_mayRelate_0 : decode b_TD_mayRelate 0 = .ok (.aload_n 0, 1) := by decide +kernel
theorem d_TD_mayRelate_1 : decode b_TD_mayRelate 1 = .ok (.invokevirtual 76, 3) := by decide +kernel
theorem d_TD_mayRelate_4 : decode b_TD_mayRelate 4 = .ok (.ifCond .eq 40, 3) := by decide +kernel
theorem d_TD_mayRelate_7 : decode b_TD_mayRelate 7 = .ok (.aload_n 0, 1) := by decide +kernel
theorem d_TD_mayRelate_8 : decode b_TD_mayRelate 8 = .ok (.iload_n 1, 1) := by decide +kernel
theorem d_TD_mayRelate_9 : decode b_TD_mayRelate 9 = .ok (.invokevirtual 86, 3) := by decide +kernel
theorem d_TD_mayRelate_12 : decode b_TD_mayRelate 12 = .ok (.ifCond .eq 32, 3) := by decide +kernel
theorem d_TD_mayRelate_15 : decode b_TD_mayRelate 15 = .ok (.aload_n 0, 1) := by decide +kernel
theorem d_TD_mayRelate_16 : decode b_TD_mayRelate 16 = .ok (.iload_n 2, 1) := by decide +kernel
theorem d_TD_mayRelate_17 : decode b_TD_mayRelate 17 = .ok (.invokevirtual 86, 3) := by decide +kernel
theorem d_TD_mayRelate_20 : decode b_TD_mayRelate 20 = .ok (.ifCond .eq 24, 3) := by decide +kernel
theorem d_TD_mayRelate_23 : decode b_TD_mayRelate 23 = .ok (.iload_n 1, 1) := by decide +kernel
theorem d_TD_mayRelate_24 : decode b_TD_mayRelate 24 = .ok (.iload_n 2, 1) := by decide +kernel
theorem d_TD_mayRelate_25 : decode b_TD_mayRelate 25 = .ok (.if_icmp .eq 19, 3) := by decide +kernel
theorem d_TD_mayRelate_28 : decode b_TD_mayRelate 28 = .ok (.iload_n 3, 1) := by decide +kernel
theorem d_TD_mayRelate_29 : decode b_TD_mayRelate 29 = .ok (.bipush (-15), 2) := by decide +kernel
theorem d_TD_mayRelate_31 : decode b_TD_mayRelate 31 = .ok (.if_icmp .lt 13, 3) := by decide +kernel
theorem d_TD_mayRelate_34 : decode b_TD_mayRelate 34 = .ok (.iload_n 3, 1) := by decide +kernel
theorem d_TD_mayRelate_35 : decode b_TD_mayRelate 35 = .ok (.bipush 15, 2) := by decide +kernel
theorem d_TD_mayRelate_37 : decode b_TD_mayRelate 37 = .ok (.if_icmp .gt 7, 3) := by decide +kernel
theorem d_TD_mayRelate_40 : decode b_TD_mayRelate 40 = .ok (.iconst 1, 1) := by decide +kernel
theorem d_TD_mayRelate_41 : decode b_TD_mayRelate 41 = .ok (.goto 4, 3) := by decide +kernel
theorem d_TD_mayRelate_44 : decode b_TD_mayRelate 44 = .ok (.iconst 0, 1) := by decide +kernel
theorem d_TD_mayRelate_45 : decode b_TD_mayRelate 45 = .ok (.ireturn, 1) := by decide +kernel
theorem d_TD_isVariable_0 : decode b_TD_isVariable 0 = .ok (.iload_n 1, 1) := by decide +kernel
theorem d_TD_isVariable_1 : decode b_TD_isVariable 1 = .ok (.ifCond .lt 15, 3) := by decide +kernel
theorem d_TD_isVariable_4 : decode b_TD_isVariable 4 = .ok (.iload_n 1, 1) := by decide +kernel
theorem d_TD_isVariable_5 : decode b_TD_isVariable 5 = .ok (.aload_n 0, 1) := by decide +kernel
theorem d_TD_isVariable_6 : decode b_TD_isVariable 6 = .ok (.getfield 37, 3) := by decide +kernel
theorem d_TD_isVariable_9 : decode b_TD_isVariable 9 = .ok (.if_icmp .ge 7, 3) := by decide +kernel
theorem d_TD_isVariable_12 : decode b_TD_isVariable 12 = .ok (.iconst 1, 1) := by decide +kernel
theorem d_TD_isVariable_13 : decode b_TD_isVariable 13 = .ok (.goto 4, 3) := by decide +kernel
theorem d_TD_isVariable_16 : decode b_TD_isVariable 16 = .ok (.iconst 0, 1) := by decide +kernel
theorem d_TD_isVariable_17 : decode b_TD_isVariable 17 = .ok (.ireturn, 1) := by decide +kernel
theorem d_TD_areThreeVariables_0 : decode b_TD_areThreeVariables 0 = .ok (.aload_n 0, 1) := by decide +kernel
theorem d_TD_areThreeVariables_1 : decode b_TD_areThreeVariables 1 = .ok (.iload_n 1, 1) := by decide +kernel
theorem d_TD_areThreeVariables_2 : decode b_TD_areThreeVariables 2 = .ok (.invokevirtual 86, 3) := by decide +kernel
theorem d_TD_areThreeVariables_5 : decode b_TD_areThreeVariables 5 = .ok (.ifCond .eq 38, 3) := by decide +kernel
theorem d_TD_areThreeVariables_8 : decode b_TD_areThreeVariables 8 = .ok (.aload_n 0, 1) := by decide +kernel
theorem d_TD_areThreeVariables_9 : decode b_TD_areThreeVariables 9 = .ok (.iload_n 2, 1) := by decide +kernel
theorem d_TD_areThreeVariables_10 : decode b_TD_areThreeVariables 10 = .ok (.invokevirtual 86, 3) := by decide +kernel
theorem d_TD_areThreeVariables_13 : decode b_TD_areThreeVariables 13 = .ok (.ifCond .eq 30, 3) := by decide +kernel
theorem d_TD_areThreeVariables_16 : decode b_TD_areThreeVariables 16 = .ok (.aload_n 0, 1) := by decide +kernel
theorem d_TD_areThreeVariables_17 : decode b_TD_areThreeVariables 17 = .ok (.iload_n 3, 1) := by decide +kernel
theorem d_TD_areThreeVariables_18 : decode b_TD_areThreeVariables 18 = .ok (.invokevirtual 86, 3) := by decide +kernel
theorem d_TD_areThreeVariables_21 : decode b_TD_areThreeVariables 21 = .ok (.ifCond .eq 22, 3) := by decide +kernel
theorem d_TD_areThreeVariables_24 : decode b_TD_areThreeVariables 24 = .ok (.iload_n 1, 1) := by decide +kernel
theorem d_TD_areThreeVariables_25 : decode b_TD_areThreeVariables 25 = .ok (.iload_n 2, 1) := by decide +kernel
theorem d_TD_areThreeVariables_26 : decode b_TD_areThreeVariables 26 = .ok (.if_icmp .eq 17, 3) := by decide +kernel
theorem d_TD_areThreeVariables_29 : decode b_TD_areThreeVariables 29 = .ok (.iload_n 2, 1) := by decide +kernel
theorem d_TD_areThreeVariables_30 : decode b_TD_areThreeVariables 30 = .ok (.iload_n 3, 1) := by decide +kernel
theorem d_TD_areThreeVariables_31 : decode b_TD_areThreeVariables 31 = .ok (.if_icmp .eq 12, 3) := by decide +kernel
theorem d_TD_areThreeVariables_34 : decode b_TD_areThreeVariables 34 = .ok (.iload_n 1, 1) := by decide +kernel
theorem d_TD_areThreeVariables_35 : decode b_TD_areThreeVariables 35 = .ok (.iload_n 3, 1) := by decide +kernel
theorem d_TD_areThreeVariables_36 : decode b_TD_areThreeVariables 36 = .ok (.if_icmp .eq 7, 3) := by decide +kernel
theorem d_TD_areThreeVariables_39 : decode b_TD_areThreeVariables 39 = .ok (.iconst 1, 1) := by decide +kernel
theorem d_TD_areThreeVariables_40 : decode b_TD_areThreeVariables 40 = .ok (.goto 4, 3) := by decide +kernel
theorem d_TD_areThreeVariables_43 : decode b_TD_areThreeVariables 43 = .ok (.iconst 0, 1) := by decide +kernel
theorem d_TD_areThreeVariables_44 : decode b_TD_areThreeVariables 44 = .ok (.ireturn, 1) := by decide +kernel
theorem d_TD_isList_0 : decode b_TD_isList 0 = .ok (.iload_n 0, 1) := by decide +kernel
theorem d_TD_isList_1 : decode b_TD_isList 1 = .ok (.ifCond .lt 12, 3) := by decide +kernel
theorem d_TD_isList_4 : decode b_TD_isList 4 = .ok (.iload_n 0, 1) := by decide +kernel
theorem d_TD_isList_5 : decode b_TD_isList 5 = .ok (.iconst 4, 1) := by decide +kernel
theorem d_TD_isList_6 : decode b_TD_isList 6 = .ok (.if_icmp .ge 7, 3) := by decide +kernel
theorem d_TD_isList_9 : decode b_TD_isList 9 = .ok (.iconst 1, 1) := by decide +kernel
theorem d_TD_isList_10 : decode b_TD_isList 10 = .ok (.goto 4, 3) := by decide +kernel
theorem d_TD_isList_13 : decode b_TD_isList 13 = .ok (.iconst 0, 1) := by decide +kernel
theorem d_TD_isList_14 : decode b_TD_isList 14 = .ok (.ireturn, 1) := by decide +kernel
theorem d_TD_isEntryPlace_0 : decode b_TD_isEntryPlace 0 = .ok (.iload_n 0, 1) := by decide +kernel
theorem d_TD_isEntryPlace_1 : decode b_TD_isEntryPlace 1 = .ok (.iconst (-1), 1) := by decide +kernel
theorem d_TD_isEntryPlace_2 : decode b_TD_isEntryPlace 2 = .ok (.if_icmp .lt 13, 3) := by decide +kernel
theorem d_TD_isEntryPlace_5 : decode b_TD_isEntryPlace 5 = .ok (.iload_n 0, 1) := by decide +kernel
theorem d_TD_isEntryPlace_6 : decode b_TD_isEntryPlace 6 = .ok (.bipush 16, 2) := by decide +kernel
theorem d_TD_isEntryPlace_8 : decode b_TD_isEntryPlace 8 = .ok (.if_icmp .ge 7, 3) := by decide +kernel
theorem d_TD_isEntryPlace_11 : decode b_TD_isEntryPlace 11 = .ok (.iconst 1, 1) := by decide +kernel
theorem d_TD_isEntryPlace_12 : decode b_TD_isEntryPlace 12 = .ok (.goto 4, 3) := by decide +kernel
theorem d_TD_isEntryPlace_15 : decode b_TD_isEntryPlace 15 = .ok (.iconst 0, 1) := by decide +kernel
theorem d_TD_isEntryPlace_16 : decode b_TD_isEntryPlace 16 = .ok (.ireturn, 1) := by decide +kernel
theorem d_TD_has_0 : decode b_TD_has 0 = .ok (.iload_n 1, 1) := by decide +kernel
theorem d_TD_has_1 : decode b_TD_has 1 = .ok (.ifCond .lt 22, 3) := by decide +kernel
theorem d_TD_has_4 : decode b_TD_has 4 = .ok (.iload_n 1, 1) := by decide +kernel
theorem d_TD_has_5 : decode b_TD_has 5 = .ok (.bipush 16, 2) := by decide +kernel
theorem d_TD_has_7 : decode b_TD_has 7 = .ok (.if_icmp .ge 16, 3) := by decide +kernel
theorem d_TD_has_10 : decode b_TD_has 10 = .ok (.iload_n 0, 1) := by decide +kernel
theorem d_TD_has_11 : decode b_TD_has 11 = .ok (.iload_n 1, 1) := by decide +kernel
theorem d_TD_has_12 : decode b_TD_has 12 = .ok (.ishr, 1) := by decide +kernel
theorem d_TD_has_13 : decode b_TD_has 13 = .ok (.iconst 1, 1) := by decide +kernel
theorem d_TD_has_14 : decode b_TD_has 14 = .ok (.iand, 1) := by decide +kernel
theorem d_TD_has_15 : decode b_TD_has 15 = .ok (.iconst 1, 1) := by decide +kernel
theorem d_TD_has_16 : decode b_TD_has 16 = .ok (.if_icmp .ne 7, 3) := by decide +kernel
theorem d_TD_has_19 : decode b_TD_has 19 = .ok (.iconst 1, 1) := by decide +kernel
theorem d_TD_has_20 : decode b_TD_has 20 = .ok (.goto 4, 3) := by decide +kernel
theorem d_TD_has_23 : decode b_TD_has 23 = .ok (.iconst 0, 1) := by decide +kernel
theorem d_TD_has_24 : decode b_TD_has 24 = .ok (.ireturn, 1) := by decide +kernel
theorem d_TD_isOpen_0 : decode b_TD_isOpen 0 = .ok (.iload_n 0, 1) := by decide +kernel
theorem d_TD_isOpen_1 : decode b_TD_isOpen 1 = .ok (.invokestatic 162, 3) := by decide +kernel
theorem d_TD_isOpen_4 : decode b_TD_isOpen 4 = .ok (.iconst 1, 1) := by decide +kernel
theorem d_TD_isOpen_5 : decode b_TD_isOpen 5 = .ok (.if_icmp .le 7, 3) := by decide +kernel
theorem d_TD_isOpen_8 : decode b_TD_isOpen 8 = .ok (.iconst 1, 1) := by decide +kernel
theorem d_TD_isOpen_9 : decode b_TD_isOpen 9 = .ok (.goto 4, 3) := by decide +kernel
theorem d_TD_isOpen_12 : decode b_TD_isOpen 12 = .ok (.iconst 0, 1) := by decide +kernel
theorem d_TD_isOpen_13 : decode b_TD_isOpen 13 = .ok (.ireturn, 1) := by decide +kernel
theorem d_TD_countValues_0 : decode b_TD_countValues 0 = .ok (.iconst 0, 1) := by decide +kernel
theorem d_TD_countValues_1 : decode b_TD_countValues 1 = .ok (.istore_n 1, 1) := by decide +kernel
theorem d_TD_countValues_2 : decode b_TD_countValues 2 = .ok (.iconst 0, 1) := by decide +kernel
theorem d_TD_countValues_3 : decode b_TD_countValues 3 = .ok (.istore_n 2, 1) := by decide +kernel
theorem d_TD_countValues_4 : decode b_TD_countValues 4 = .ok (.iload_n 2, 1) := by decide +kernel
theorem d_TD_countValues_5 : decode b_TD_countValues 5 = .ok (.bipush 8, 2) := by decide +kernel
theorem d_TD_countValues_7 : decode b_TD_countValues 7 = .ok (.if_icmp .ge 18, 3) := by decide +kernel
theorem d_TD_countValues_10 : decode b_TD_countValues 10 = .ok (.iload_n 1, 1) := by decide +kernel
theorem d_TD_countValues_11 : decode b_TD_countValues 11 = .ok (.aload_n 0, 1) := by decide +kernel
theorem d_TD_countValues_12 : decode b_TD_countValues 12 = .ok (.iload_n 2, 1) := by decide +kernel
theorem d_TD_countValues_13 : decode b_TD_countValues 13 = .ok (.iaload, 1) := by decide +kernel
theorem d_TD_countValues_14 : decode b_TD_countValues 14 = .ok (.invokestatic 162, 3) := by decide +kernel
theorem d_TD_countValues_17 : decode b_TD_countValues 17 = .ok (.iadd, 1) := by decide +kernel
theorem d_TD_countValues_18 : decode b_TD_countValues 18 = .ok (.istore_n 1, 1) := by decide +kernel
theorem d_TD_countValues_19 : decode b_TD_countValues 19 = .ok (.iinc 2 1, 3) := by decide +kernel
theorem d_TD_countValues_22 : decode b_TD_countValues 22 = .ok (.goto (-18), 3) := by decide +kernel
theorem d_TD_countValues_25 : decode b_TD_countValues 25 = .ok (.iload_n 1, 1) := by decide +kernel
theorem d_TD_countValues_26 : decode b_TD_countValues 26 = .ok (.ireturn, 1) := by decide +kernel
