theorem dX0_init_0 : decode cX0_init 0 = .ok (.aload_n 0, 1) := by decide +kernel
theorem dX0_init_1 : decode cX0_init 1 = .ok (.invokespecial 1, 3) := by decide +kernel
theorem dX0_init_4 : decode cX0_init 4 = .ok (.aload_n 0, 1) := by decide +kernel
theorem dX0_init_5 : decode cX0_init 5 = .ok (.bipush 10, 2) := by decide +kernel
theorem dX0_init_7 : decode cX0_init 7 = .ok (.newarray .int, 2) := by decide +kernel
theorem dX0_init_9 : decode cX0_init 9 = .ok (.putfield 9, 3) := by decide +kernel
theorem dX0_init_12 : decode cX0_init 12 = .ok (.aload_n 0, 1) := by decide +kernel
theorem dX0_init_13 : decode cX0_init 13 = .ok (.bipush 10, 2) := by decide +kernel
theorem dX0_init_15 : decode cX0_init 15 = .ok (.newarray .int, 2) := by decide +kernel
theorem dX0_init_17 : decode cX0_init 17 = .ok (.dup, 1) := by decide +kernel
theorem dX0_init_18 : decode cX0_init 18 = .ok (.iconst 0, 1) := by decide +kernel
theorem dX0_init_19 : decode cX0_init 19 = .ok (.bipush 100, 2) := by decide +kernel
theorem dX0_init_21 : decode cX0_init 21 = .ok (.iastore, 1) := by decide +kernel
theorem dX0_init_22 : decode cX0_init 22 = .ok (.dup, 1) := by decide +kernel
theorem dX0_init_23 : decode cX0_init 23 = .ok (.iconst 1, 1) := by decide +kernel
theorem dX0_init_24 : decode cX0_init 24 = .ok (.bipush 100, 2) := by decide +kernel
theorem dX0_init_26 : decode cX0_init 26 = .ok (.iastore, 1) := by decide +kernel
theorem dX0_init_27 : decode cX0_init 27 = .ok (.dup, 1) := by decide +kernel
theorem dX0_init_28 : decode cX0_init 28 = .ok (.iconst 2, 1) := by decide +kernel
theorem dX0_init_29 : decode cX0_init 29 = .ok (.bipush 100, 2) := by decide +kernel
theorem dX0_init_31 : decode cX0_init 31 = .ok (.iastore, 1) := by decide +kernel
theorem dX0_init_32 : decode cX0_init 32 = .ok (.dup, 1) := by decide +kernel
theorem dX0_init_33 : decode cX0_init 33 = .ok (.iconst 3, 1) := by decide +kernel
theorem dX0_init_34 : decode cX0_init 34 = .ok (.bipush 100, 2) := by decide +kernel
theorem dX0_init_36 : decode cX0_init 36 = .ok (.iastore, 1) := by decide +kernel
theorem dX0_init_37 : decode cX0_init 37 = .ok (.dup, 1) := by decide +kernel
theorem dX0_init_38 : decode cX0_init 38 = .ok (.iconst 4, 1) := by decide +kernel
theorem dX0_init_39 : decode cX0_init 39 = .ok (.bipush 100, 2) := by decide +kernel
theorem dX0_init_41 : decode cX0_init 41 = .ok (.iastore, 1) := by decide +kernel
theorem dX0_init_42 : decode cX0_init 42 = .ok (.dup, 1) := by decide +kernel
theorem dX0_init_43 : decode cX0_init 43 = .ok (.iconst 5, 1) := by decide +kernel
theorem dX0_init_44 : decode cX0_init 44 = .ok (.bipush 100, 2) := by decide +kernel
theorem dX0_init_46 : decode cX0_init 46 = .ok (.iastore, 1) := by decide +kernel
theorem dX0_init_47 : decode cX0_init 47 = .ok (.dup, 1) := by decide +kernel
theorem dX0_init_48 : decode cX0_init 48 = .ok (.bipush 6, 2) := by decide +kernel
theorem dX0_init_50 : decode cX0_init 50 = .ok (.bipush 100, 2) := by decide +kernel
theorem dX0_init_52 : decode cX0_init 52 = .ok (.iastore, 1) := by decide +kernel
theorem dX0_init_53 : decode cX0_init 53 = .ok (.dup, 1) := by decide +kernel
theorem dX0_init_54 : decode cX0_init 54 = .ok (.bipush 7, 2) := by decide +kernel
theorem dX0_init_56 : decode cX0_init 56 = .ok (.bipush 100, 2) := by decide +kernel
theorem dX0_init_58 : decode cX0_init 58 = .ok (.iastore, 1) := by decide +kernel
theorem dX0_init_59 : decode cX0_init 59 = .ok (.dup, 1) := by decide +kernel
theorem dX0_init_60 : decode cX0_init 60 = .ok (.bipush 8, 2) := by decide +kernel
theorem dX0_init_62 : decode cX0_init 62 = .ok (.bipush 100, 2) := by decide +kernel
theorem dX0_init_64 : decode cX0_init 64 = .ok (.iastore, 1) := by decide +kernel
theorem dX0_init_65 : decode cX0_init 65 = .ok (.dup, 1) := by decide +kernel
theorem dX0_init_66 : decode cX0_init 66 = .ok (.bipush 9, 2) := by decide +kernel
theorem dX0_init_68 : decode cX0_init 68 = .ok (.bipush 100, 2) := by decide +kernel
theorem dX0_init_70 : decode cX0_init 70 = .ok (.iastore, 1) := by decide +kernel
theorem dX0_init_71 : decode cX0_init 71 = .ok (.putfield 13, 3) := by decide +kernel
theorem dX0_init_74 : decode cX0_init 74 = .ok (.return_, 1) := by decide +kernel
theorem dX1_init_0 : decode cX1_init 0 = .ok (.aload_n 0, 1) := by decide +kernel
theorem dX1_init_1 : decode cX1_init 1 = .ok (.invokespecial 3, 3) := by decide +kernel
theorem dX1_init_4 : decode cX1_init 4 = .ok (.aload_n 0, 1) := by decide +kernel
theorem dX1_init_5 : decode cX1_init 5 = .ok (.bipush 40, 2) := by decide +kernel
theorem dX1_init_7 : decode cX1_init 7 = .ok (.newarray .int, 2) := by decide +kernel
theorem dX1_init_9 : decode cX1_init 9 = .ok (.putfield 11, 3) := by decide +kernel
theorem dX1_init_12 : decode cX1_init 12 = .ok (.aload_n 0, 1) := by decide +kernel
theorem dX1_init_13 : decode cX1_init 13 = .ok (.aload_n 1, 1) := by decide +kernel
theorem dX1_init_14 : decode cX1_init 14 = .ok (.putfield 17, 3) := by decide +kernel
theorem dX1_init_17 : decode cX1_init 17 = .ok (.return_, 1) := by decide +kernel
theorem dX1_build_0 : decode cX1_build 0 = .ok (.iconst 0, 1) := by decide +kernel
theorem dX1_build_1 : decode cX1_build 1 = .ok (.istore_n 2, 1) := by decide +kernel
theorem dX1_build_2 : decode cX1_build 2 = .ok (.iload_n 2, 1) := by decide +kernel
theorem dX1_build_3 : decode cX1_build 3 = .ok (.aload_n 0, 1) := by decide +kernel
theorem dX1_build_4 : decode cX1_build 4 = .ok (.getfield 17, 3) := by decide +kernel
theorem dX1_build_7 : decode cX1_build 7 = .ok (.getfield 21, 3) := by decide +kernel
theorem dX1_build_10 : decode cX1_build 10 = .ok (.if_icmp .ge 15, 3) := by decide +kernel
theorem dX1_build_13 : decode cX1_build 13 = .ok (.aload_n 0, 1) := by decide +kernel
theorem dX1_build_14 : decode cX1_build 14 = .ok (.iload_n 2, 1) := by decide +kernel
theorem dX1_build_15 : decode cX1_build 15 = .ok (.iload_n 1, 1) := by decide +kernel
theorem dX1_build_16 : decode cX1_build 16 = .ok (.invokevirtual 25, 3) := by decide +kernel
theorem dX1_build_19 : decode cX1_build 19 = .ok (.iinc 2 1, 3) := by decide +kernel
theorem dX1_build_22 : decode cX1_build 22 = .ok (.goto (-20), 3) := by decide +kernel
theorem dX1_build_25 : decode cX1_build 25 = .ok (.return_, 1) := by decide +kernel
theorem dX1_enrol_0 : decode cX1_enrol 0 = .ok (.aload_n 0, 1) := by decide +kernel
theorem dX1_enrol_1 : decode cX1_enrol 1 = .ok (.getfield 11, 3) := by decide +kernel
theorem dX1_enrol_4 : decode cX1_enrol 4 = .ok (.iload_n 1, 1) := by decide +kernel
theorem dX1_enrol_5 : decode cX1_enrol 5 = .ok (.iload_n 1, 1) := by decide +kernel
theorem dX1_enrol_6 : decode cX1_enrol 6 = .ok (.iastore, 1) := by decide +kernel
theorem dX1_enrol_7 : decode cX1_enrol 7 = .ok (.iconst 0, 1) := by decide +kernel
theorem dX1_enrol_8 : decode cX1_enrol 8 = .ok (.istore_n 3, 1) := by decide +kernel
theorem dX1_enrol_9 : decode cX1_enrol 9 = .ok (.iload_n 3, 1) := by decide +kernel
theorem dX1_enrol_10 : decode cX1_enrol 10 = .ok (.iload_n 1, 1) := by decide +kernel
theorem dX1_enrol_11 : decode cX1_enrol 11 = .ok (.if_icmp .ge 54, 3) := by decide +kernel
theorem dX1_enrol_14 : decode cX1_enrol 14 = .ok (.aload_n 0, 1) := by decide +kernel
theorem dX1_enrol_15 : decode cX1_enrol 15 = .ok (.getfield 11, 3) := by decide +kernel
theorem dX1_enrol_18 : decode cX1_enrol 18 = .ok (.iload_n 3, 1) := by decide +kernel
theorem dX1_enrol_19 : decode cX1_enrol 19 = .ok (.iaload, 1) := by decide +kernel
theorem dX1_enrol_20 : decode cX1_enrol 20 = .ok (.aload_n 0, 1) := by decide +kernel
theorem dX1_enrol_21 : decode cX1_enrol 21 = .ok (.getfield 11, 3) := by decide +kernel
theorem dX1_enrol_24 : decode cX1_enrol 24 = .ok (.iload_n 1, 1) := by decide +kernel
theorem dX1_enrol_25 : decode cX1_enrol 25 = .ok (.iaload, 1) := by decide +kernel
theorem dX1_enrol_26 : decode cX1_enrol 26 = .ok (.if_icmp .eq 33, 3) := by decide +kernel
theorem dX1_enrol_29 : decode cX1_enrol 29 = .ok (.aload_n 0, 1) := by decide +kernel
theorem dX1_enrol_30 : decode cX1_enrol 30 = .ok (.getfield 17, 3) := by decide +kernel
theorem dX1_enrol_33 : decode cX1_enrol 33 = .ok (.iload_n 3, 1) := by decide +kernel
theorem dX1_enrol_34 : decode cX1_enrol 34 = .ok (.iload_n 1, 1) := by decide +kernel
theorem dX1_enrol_35 : decode cX1_enrol 35 = .ok (.iload_n 2, 1) := by decide +kernel
theorem dX1_enrol_36 : decode cX1_enrol 36 = .ok (.invokevirtual 29, 3) := by decide +kernel
theorem dX1_enrol_39 : decode cX1_enrol 39 = .ok (.ifCond .eq 20, 3) := by decide +kernel
theorem dX1_enrol_42 : decode cX1_enrol 42 = .ok (.aload_n 0, 1) := by decide +kernel
theorem dX1_enrol_43 : decode cX1_enrol 43 = .ok (.aload_n 0, 1) := by decide +kernel
theorem dX1_enrol_44 : decode cX1_enrol 44 = .ok (.getfield 11, 3) := by decide +kernel
theorem dX1_enrol_47 : decode cX1_enrol 47 = .ok (.iload_n 3, 1) := by decide +kernel
theorem dX1_enrol_48 : decode cX1_enrol 48 = .ok (.iaload, 1) := by decide +kernel
theorem dX1_enrol_49 : decode cX1_enrol 49 = .ok (.aload_n 0, 1) := by decide +kernel
theorem dX1_enrol_50 : decode cX1_enrol 50 = .ok (.getfield 11, 3) := by decide +kernel
theorem dX1_enrol_53 : decode cX1_enrol 53 = .ok (.iload_n 1, 1) := by decide +kernel
theorem dX1_enrol_54 : decode cX1_enrol 54 = .ok (.iaload, 1) := by decide +kernel
theorem dX1_enrol_55 : decode cX1_enrol 55 = .ok (.iload_n 1, 1) := by decide +kernel
theorem dX1_enrol_56 : decode cX1_enrol 56 = .ok (.invokevirtual 33, 3) := by decide +kernel
theorem dX1_enrol_59 : decode cX1_enrol 59 = .ok (.iinc 3 1, 3) := by decide +kernel
theorem dX1_enrol_62 : decode cX1_enrol 62 = .ok (.goto (-53), 3) := by decide +kernel
theorem dX1_enrol_65 : decode cX1_enrol 65 = .ok (.return_, 1) := by decide +kernel
theorem dX1_join_0 : decode cX1_join 0 = .ok (.iload_n 1, 1) := by decide +kernel
theorem dX1_join_1 : decode cX1_join 1 = .ok (.iload_n 2, 1) := by decide +kernel
theorem dX1_join_2 : decode cX1_join 2 = .ok (.invokestatic 37, 3) := by decide +kernel
theorem dX1_join_5 : decode cX1_join 5 = .ok (.istore 4, 2) := by decide +kernel
theorem dX1_join_7 : decode cX1_join 7 = .ok (.iload_n 1, 1) := by decide +kernel
theorem dX1_join_8 : decode cX1_join 8 = .ok (.iload_n 2, 1) := by decide +kernel
theorem dX1_join_9 : decode cX1_join 9 = .ok (.invokestatic 43, 3) := by decide +kernel
theorem dX1_join_12 : decode cX1_join 12 = .ok (.istore 5, 2) := by decide +kernel
theorem dX1_join_14 : decode cX1_join 14 = .ok (.iload 5, 2) := by decide +kernel
theorem dX1_join_16 : decode cX1_join 16 = .ok (.istore 6, 2) := by decide +kernel
theorem dX1_join_18 : decode cX1_join 18 = .ok (.iload 6, 2) := by decide +kernel
theorem dX1_join_20 : decode cX1_join 20 = .ok (.iload_n 3, 1) := by decide +kernel
theorem dX1_join_21 : decode cX1_join 21 = .ok (.if_icmp .gt 30, 3) := by decide +kernel
theorem dX1_join_24 : decode cX1_join 24 = .ok (.aload_n 0, 1) := by decide +kernel
theorem dX1_join_25 : decode cX1_join 25 = .ok (.getfield 11, 3) := by decide +kernel
theorem dX1_join_28 : decode cX1_join 28 = .ok (.iload 6, 2) := by decide +kernel
theorem dX1_join_30 : decode cX1_join 30 = .ok (.iaload, 1) := by decide +kernel
theorem dX1_join_31 : decode cX1_join 31 = .ok (.iload 5, 2) := by decide +kernel
theorem dX1_join_33 : decode cX1_join 33 = .ok (.if_icmp .ne 12, 3) := by decide +kernel
theorem dX1_join_36 : decode cX1_join 36 = .ok (.aload_n 0, 1) := by decide +kernel
theorem dX1_join_37 : decode cX1_join 37 = .ok (.getfield 11, 3) := by decide +kernel
theorem dX1_join_40 : decode cX1_join 40 = .ok (.iload 6, 2) := by decide +kernel
theorem dX1_join_42 : decode cX1_join 42 = .ok (.iload 4, 2) := by decide +kernel
theorem dX1_join_44 : decode cX1_join 44 = .ok (.iastore, 1) := by decide +kernel
theorem dX1_join_45 : decode cX1_join 45 = .ok (.iinc 6 1, 3) := by decide +kernel
theorem dX1_join_48 : decode cX1_join 48 = .ok (.goto (-30), 3) := by decide +kernel
theorem dX1_join_51 : decode cX1_join 51 = .ok (.return_, 1) := by decide +kernel
theorem dX1_headOf_0 : decode cX1_headOf 0 = .ok (.iload_n 1, 1) := by decide +kernel
theorem dX1_headOf_1 : decode cX1_headOf 1 = .ok (.istore_n 2, 1) := by decide +kernel
theorem dX1_headOf_2 : decode cX1_headOf 2 = .ok (.iload_n 1, 1) := by decide +kernel
theorem dX1_headOf_3 : decode cX1_headOf 3 = .ok (.iconst 1, 1) := by decide +kernel
theorem dX1_headOf_4 : decode cX1_headOf 4 = .ok (.iadd, 1) := by decide +kernel
theorem dX1_headOf_5 : decode cX1_headOf 5 = .ok (.istore_n 3, 1) := by decide +kernel
theorem dX1_headOf_6 : decode cX1_headOf 6 = .ok (.iload_n 3, 1) := by decide +kernel
theorem dX1_headOf_7 : decode cX1_headOf 7 = .ok (.aload_n 0, 1) := by decide +kernel
theorem dX1_headOf_8 : decode cX1_headOf 8 = .ok (.getfield 17, 3) := by decide +kernel
theorem dX1_headOf_11 : decode cX1_headOf 11 = .ok (.getfield 21, 3) := by decide +kernel
theorem dX1_headOf_14 : decode cX1_headOf 14 = .ok (.if_icmp .ge 33, 3) := by decide +kernel
theorem dX1_headOf_17 : decode cX1_headOf 17 = .ok (.aload_n 0, 1) := by decide +kernel
theorem dX1_headOf_18 : decode cX1_headOf 18 = .ok (.getfield 11, 3) := by decide +kernel
theorem dX1_headOf_21 : decode cX1_headOf 21 = .ok (.iload_n 3, 1) := by decide +kernel
theorem dX1_headOf_22 : decode cX1_headOf 22 = .ok (.iaload, 1) := by decide +kernel
theorem dX1_headOf_23 : decode cX1_headOf 23 = .ok (.iload_n 1, 1) := by decide +kernel
theorem dX1_headOf_24 : decode cX1_headOf 24 = .ok (.if_icmp .ne 17, 3) := by decide +kernel
theorem dX1_headOf_27 : decode cX1_headOf 27 = .ok (.aload_n 0, 1) := by decide +kernel
theorem dX1_headOf_28 : decode cX1_headOf 28 = .ok (.getfield 17, 3) := by decide +kernel
theorem dX1_headOf_31 : decode cX1_headOf 31 = .ok (.iload_n 3, 1) := by decide +kernel
theorem dX1_headOf_32 : decode cX1_headOf 32 = .ok (.iload_n 2, 1) := by decide +kernel
theorem dX1_headOf_33 : decode cX1_headOf 33 = .ok (.invokevirtual 46, 3) := by decide +kernel
theorem dX1_headOf_36 : decode cX1_headOf 36 = .ok (.ifCond .eq 5, 3) := by decide +kernel
theorem dX1_headOf_39 : decode cX1_headOf 39 = .ok (.iload_n 3, 1) := by decide +kernel
theorem dX1_headOf_40 : decode cX1_headOf 40 = .ok (.istore_n 2, 1) := by decide +kernel
theorem dX1_headOf_41 : decode cX1_headOf 41 = .ok (.iinc 3 1, 3) := by decide +kernel
theorem dX1_headOf_44 : decode cX1_headOf 44 = .ok (.goto (-38), 3) := by decide +kernel
theorem dX1_headOf_47 : decode cX1_headOf 47 = .ok (.iload_n 2, 1) := by decide +kernel
theorem dX1_headOf_48 : decode cX1_headOf 48 = .ok (.ireturn, 1) := by decide +kernel
theorem dX1_shareOf_0 : decode cX1_shareOf 0 = .ok (.aload_n 0, 1) := by decide +kernel
theorem dX1_shareOf_1 : decode cX1_shareOf 1 = .ok (.getfield 11, 3) := by decide +kernel
theorem dX1_shareOf_4 : decode cX1_shareOf 4 = .ok (.iload_n 1, 1) := by decide +kernel
theorem dX1_shareOf_5 : decode cX1_shareOf 5 = .ok (.iaload, 1) := by decide +kernel
theorem dX1_shareOf_6 : decode cX1_shareOf 6 = .ok (.istore_n 3, 1) := by decide +kernel
theorem dX1_shareOf_7 : decode cX1_shareOf 7 = .ok (.aload_n 0, 1) := by decide +kernel
theorem dX1_shareOf_8 : decode cX1_shareOf 8 = .ok (.iload_n 3, 1) := by decide +kernel
theorem dX1_shareOf_9 : decode cX1_shareOf 9 = .ok (.invokevirtual 50, 3) := by decide +kernel
theorem dX1_shareOf_12 : decode cX1_shareOf 12 = .ok (.istore 4, 2) := by decide +kernel
theorem dX1_shareOf_14 : decode cX1_shareOf 14 = .ok (.iconst 0, 1) := by decide +kernel
theorem dX1_shareOf_15 : decode cX1_shareOf 15 = .ok (.istore 5, 2) := by decide +kernel
theorem dX1_shareOf_17 : decode cX1_shareOf 17 = .ok (.iload_n 3, 1) := by decide +kernel
theorem dX1_shareOf_18 : decode cX1_shareOf 18 = .ok (.istore 6, 2) := by decide +kernel
theorem dX1_shareOf_20 : decode cX1_shareOf 20 = .ok (.iload 6, 2) := by decide +kernel
theorem dX1_shareOf_22 : decode cX1_shareOf 22 = .ok (.aload_n 0, 1) := by decide +kernel
theorem dX1_shareOf_23 : decode cX1_shareOf 23 = .ok (.getfield 17, 3) := by decide +kernel
theorem dX1_shareOf_26 : decode cX1_shareOf 26 = .ok (.getfield 21, 3) := by decide +kernel
theorem dX1_shareOf_29 : decode cX1_shareOf 29 = .ok (.if_icmp .ge 44, 3) := by decide +kernel
theorem dX1_shareOf_32 : decode cX1_shareOf 32 = .ok (.aload_n 0, 1) := by decide +kernel
theorem dX1_shareOf_33 : decode cX1_shareOf 33 = .ok (.getfield 11, 3) := by decide +kernel
theorem dX1_shareOf_36 : decode cX1_shareOf 36 = .ok (.iload 6, 2) := by decide +kernel
theorem dX1_shareOf_38 : decode cX1_shareOf 38 = .ok (.iaload, 1) := by decide +kernel
theorem dX1_shareOf_39 : decode cX1_shareOf 39 = .ok (.iload_n 3, 1) := by decide +kernel
theorem dX1_shareOf_40 : decode cX1_shareOf 40 = .ok (.if_icmp .ne 27, 3) := by decide +kernel
theorem dX1_shareOf_43 : decode cX1_shareOf 43 = .ok (.iload 6, 2) := by decide +kernel
theorem dX1_shareOf_45 : decode cX1_shareOf 45 = .ok (.iload 4, 2) := by decide +kernel
theorem dX1_shareOf_47 : decode cX1_shareOf 47 = .ok (.if_icmp .eq 20, 3) := by decide +kernel
theorem dX1_shareOf_50 : decode cX1_shareOf 50 = .ok (.iload 5, 2) := by decide +kernel
theorem dX1_shareOf_52 : decode cX1_shareOf 52 = .ok (.iconst 1, 1) := by decide +kernel
theorem dX1_shareOf_53 : decode cX1_shareOf 53 = .ok (.aload_n 0, 1) := by decide +kernel
theorem dX1_shareOf_54 : decode cX1_shareOf 54 = .ok (.getfield 17, 3) := by decide +kernel
theorem dX1_shareOf_57 : decode cX1_shareOf 57 = .ok (.getfield 54, 3) := by decide +kernel
theorem dX1_shareOf_60 : decode cX1_shareOf 60 = .ok (.iload 6, 2) := by decide +kernel
theorem dX1_shareOf_62 : decode cX1_shareOf 62 = .ok (.iaload, 1) := by decide +kernel
theorem dX1_shareOf_63 : decode cX1_shareOf 63 = .ok (.iadd, 1) := by decide +kernel
theorem dX1_shareOf_64 : decode cX1_shareOf 64 = .ok (.iadd, 1) := by decide +kernel
theorem dX1_shareOf_65 : decode cX1_shareOf 65 = .ok (.istore 5, 2) := by decide +kernel
theorem dX1_shareOf_67 : decode cX1_shareOf 67 = .ok (.iinc 6 1, 3) := by decide +kernel
theorem dX1_shareOf_70 : decode cX1_shareOf 70 = .ok (.goto (-50), 3) := by decide +kernel
theorem dX1_shareOf_73 : decode cX1_shareOf 73 = .ok (.iload 5, 2) := by decide +kernel
theorem dX1_shareOf_75 : decode cX1_shareOf 75 = .ok (.ifCond .ne 7, 3) := by decide +kernel
theorem dX1_shareOf_78 : decode cX1_shareOf 78 = .ok (.sipush 1000, 3) := by decide +kernel
theorem dX1_shareOf_81 : decode cX1_shareOf 81 = .ok (.ireturn, 1) := by decide +kernel
theorem dX1_shareOf_82 : decode cX1_shareOf 82 = .ok (.iload_n 1, 1) := by decide +kernel
theorem dX1_shareOf_83 : decode cX1_shareOf 83 = .ok (.iload 4, 2) := by decide +kernel
theorem dX1_shareOf_85 : decode cX1_shareOf 85 = .ok (.if_icmp .eq 24, 3) := by decide +kernel
theorem dX1_shareOf_88 : decode cX1_shareOf 88 = .ok (.sipush 1000, 3) := by decide +kernel
theorem dX1_shareOf_91 : decode cX1_shareOf 91 = .ok (.iload_n 2, 1) := by decide +kernel
theorem dX1_shareOf_92 : decode cX1_shareOf 92 = .ok (.isub, 1) := by decide +kernel
theorem dX1_shareOf_93 : decode cX1_shareOf 93 = .ok (.iconst 1, 1) := by decide +kernel
theorem dX1_shareOf_94 : decode cX1_shareOf 94 = .ok (.aload_n 0, 1) := by decide +kernel
theorem dX1_shareOf_95 : decode cX1_shareOf 95 = .ok (.getfield 17, 3) := by decide +kernel
theorem dX1_shareOf_98 : decode cX1_shareOf 98 = .ok (.getfield 54, 3) := by decide +kernel
theorem dX1_shareOf_101 : decode cX1_shareOf 101 = .ok (.iload_n 1, 1) := by decide +kernel
theorem dX1_shareOf_102 : decode cX1_shareOf 102 = .ok (.iaload, 1) := by decide +kernel
theorem dX1_shareOf_103 : decode cX1_shareOf 103 = .ok (.iadd, 1) := by decide +kernel
theorem dX1_shareOf_104 : decode cX1_shareOf 104 = .ok (.imul, 1) := by decide +kernel
theorem dX1_shareOf_105 : decode cX1_shareOf 105 = .ok (.iload 5, 2) := by decide +kernel
theorem dX1_shareOf_107 : decode cX1_shareOf 107 = .ok (.idiv, 1) := by decide +kernel
theorem dX1_shareOf_108 : decode cX1_shareOf 108 = .ok (.ireturn, 1) := by decide +kernel
theorem dX1_shareOf_109 : decode cX1_shareOf 109 = .ok (.sipush 1000, 3) := by decide +kernel
theorem dX1_shareOf_112 : decode cX1_shareOf 112 = .ok (.istore 6, 2) := by decide +kernel
theorem dX1_shareOf_114 : decode cX1_shareOf 114 = .ok (.iload_n 3, 1) := by decide +kernel
theorem dX1_shareOf_115 : decode cX1_shareOf 115 = .ok (.istore 7, 2) := by decide +kernel
theorem dX1_shareOf_117 : decode cX1_shareOf 117 = .ok (.iload 7, 2) := by decide +kernel
theorem dX1_shareOf_119 : decode cX1_shareOf 119 = .ok (.aload_n 0, 1) := by decide +kernel
theorem dX1_shareOf_120 : decode cX1_shareOf 120 = .ok (.getfield 17, 3) := by decide +kernel
theorem dX1_shareOf_123 : decode cX1_shareOf 123 = .ok (.getfield 21, 3) := by decide +kernel
theorem dX1_shareOf_126 : decode cX1_shareOf 126 = .ok (.if_icmp .ge 53, 3) := by decide +kernel
theorem dX1_shareOf_129 : decode cX1_shareOf 129 = .ok (.aload_n 0, 1) := by decide +kernel
theorem dX1_shareOf_130 : decode cX1_shareOf 130 = .ok (.getfield 11, 3) := by decide +kernel
theorem dX1_shareOf_133 : decode cX1_shareOf 133 = .ok (.iload 7, 2) := by decide +kernel
theorem dX1_shareOf_135 : decode cX1_shareOf 135 = .ok (.iaload, 1) := by decide +kernel
theorem dX1_shareOf_136 : decode cX1_shareOf 136 = .ok (.iload_n 3, 1) := by decide +kernel
theorem dX1_shareOf_137 : decode cX1_shareOf 137 = .ok (.if_icmp .ne 36, 3) := by decide +kernel
theorem dX1_shareOf_140 : decode cX1_shareOf 140 = .ok (.iload 7, 2) := by decide +kernel
theorem dX1_shareOf_142 : decode cX1_shareOf 142 = .ok (.iload 4, 2) := by decide +kernel
theorem dX1_shareOf_144 : decode cX1_shareOf 144 = .ok (.if_icmp .eq 29, 3) := by decide +kernel
theorem dX1_shareOf_147 : decode cX1_shareOf 147 = .ok (.iload 6, 2) := by decide +kernel
theorem dX1_shareOf_149 : decode cX1_shareOf 149 = .ok (.sipush 1000, 3) := by decide +kernel
theorem dX1_shareOf_152 : decode cX1_shareOf 152 = .ok (.iload_n 2, 1) := by decide +kernel
theorem dX1_shareOf_153 : decode cX1_shareOf 153 = .ok (.isub, 1) := by decide +kernel
theorem dX1_shareOf_154 : decode cX1_shareOf 154 = .ok (.iconst 1, 1) := by decide +kernel
theorem dX1_shareOf_155 : decode cX1_shareOf 155 = .ok (.aload_n 0, 1) := by decide +kernel
theorem dX1_shareOf_156 : decode cX1_shareOf 156 = .ok (.getfield 17, 3) := by decide +kernel
theorem dX1_shareOf_159 : decode cX1_shareOf 159 = .ok (.getfield 54, 3) := by decide +kernel
theorem dX1_shareOf_162 : decode cX1_shareOf 162 = .ok (.iload 7, 2) := by decide +kernel
theorem dX1_shareOf_164 : decode cX1_shareOf 164 = .ok (.iaload, 1) := by decide +kernel
theorem dX1_shareOf_165 : decode cX1_shareOf 165 = .ok (.iadd, 1) := by decide +kernel
theorem dX1_shareOf_166 : decode cX1_shareOf 166 = .ok (.imul, 1) := by decide +kernel
theorem dX1_shareOf_167 : decode cX1_shareOf 167 = .ok (.iload 5, 2) := by decide +kernel
theorem dX1_shareOf_169 : decode cX1_shareOf 169 = .ok (.idiv, 1) := by decide +kernel
theorem dX1_shareOf_170 : decode cX1_shareOf 170 = .ok (.isub, 1) := by decide +kernel
theorem dX1_shareOf_171 : decode cX1_shareOf 171 = .ok (.istore 6, 2) := by decide +kernel
theorem dX1_shareOf_173 : decode cX1_shareOf 173 = .ok (.iinc 7 1, 3) := by decide +kernel
theorem dX1_shareOf_176 : decode cX1_shareOf 176 = .ok (.goto (-59), 3) := by decide +kernel
theorem dX1_shareOf_179 : decode cX1_shareOf 179 = .ok (.iload 6, 2) := by decide +kernel
theorem dX1_shareOf_181 : decode cX1_shareOf 181 = .ok (.ireturn, 1) := by decide +kernel
theorem dX1_handsOf_0 : decode cX1_handsOf 0 = .ok (.lconst 0, 1) := by decide +kernel
theorem dX1_handsOf_1 : decode cX1_handsOf 1 = .ok (.lstore_n 2, 1) := by decide +kernel
theorem dX1_handsOf_2 : decode cX1_handsOf 2 = .ok (.iload_n 1, 1) := by decide +kernel
theorem dX1_handsOf_3 : decode cX1_handsOf 3 = .ok (.istore 4, 2) := by decide +kernel
theorem dX1_handsOf_5 : decode cX1_handsOf 5 = .ok (.iload 4, 2) := by decide +kernel
theorem dX1_handsOf_7 : decode cX1_handsOf 7 = .ok (.aload_n 0, 1) := by decide +kernel
theorem dX1_handsOf_8 : decode cX1_handsOf 8 = .ok (.getfield 17, 3) := by decide +kernel
theorem dX1_handsOf_11 : decode cX1_handsOf 11 = .ok (.getfield 21, 3) := by decide +kernel
theorem dX1_handsOf_14 : decode cX1_handsOf 14 = .ok (.if_icmp .ge 32, 3) := by decide +kernel
theorem dX1_handsOf_17 : decode cX1_handsOf 17 = .ok (.aload_n 0, 1) := by decide +kernel
theorem dX1_handsOf_18 : decode cX1_handsOf 18 = .ok (.getfield 11, 3) := by decide +kernel
theorem dX1_handsOf_21 : decode cX1_handsOf 21 = .ok (.iload 4, 2) := by decide +kernel
theorem dX1_handsOf_23 : decode cX1_handsOf 23 = .ok (.iaload, 1) := by decide +kernel
theorem dX1_handsOf_24 : decode cX1_handsOf 24 = .ok (.iload_n 1, 1) := by decide +kernel
theorem dX1_handsOf_25 : decode cX1_handsOf 25 = .ok (.if_icmp .ne 15, 3) := by decide +kernel
theorem dX1_handsOf_28 : decode cX1_handsOf 28 = .ok (.lload_n 2, 1) := by decide +kernel
theorem dX1_handsOf_29 : decode cX1_handsOf 29 = .ok (.aload_n 0, 1) := by decide +kernel
theorem dX1_handsOf_30 : decode cX1_handsOf 30 = .ok (.getfield 17, 3) := by decide +kernel
theorem dX1_handsOf_33 : decode cX1_handsOf 33 = .ok (.iload 4, 2) := by decide +kernel
theorem dX1_handsOf_35 : decode cX1_handsOf 35 = .ok (.invokevirtual 57, 3) := by decide +kernel
theorem dX1_handsOf_38 : decode cX1_handsOf 38 = .ok (.lor, 1) := by decide +kernel
theorem dX1_handsOf_39 : decode cX1_handsOf 39 = .ok (.lstore_n 2, 1) := by decide +kernel
theorem dX1_handsOf_40 : decode cX1_handsOf 40 = .ok (.iinc 4 1, 3) := by decide +kernel
theorem dX1_handsOf_43 : decode cX1_handsOf 43 = .ok (.goto (-38), 3) := by decide +kernel
theorem dX1_handsOf_46 : decode cX1_handsOf 46 = .ok (.lload_n 2, 1) := by decide +kernel
theorem dX1_handsOf_47 : decode cX1_handsOf 47 = .ok (.lreturn, 1) := by decide +kernel
theorem dX1_harmOf_0 : decode cX1_harmOf 0 = .ok (.iconst 0, 1) := by decide +kernel
theorem dX1_harmOf_1 : decode cX1_harmOf 1 = .ok (.istore_n 2, 1) := by decide +kernel
theorem dX1_harmOf_2 : decode cX1_harmOf 2 = .ok (.iload_n 1, 1) := by decide +kernel
theorem dX1_harmOf_3 : decode cX1_harmOf 3 = .ok (.istore_n 3, 1) := by decide +kernel
theorem dX1_harmOf_4 : decode cX1_harmOf 4 = .ok (.iload_n 3, 1) := by decide +kernel
theorem dX1_harmOf_5 : decode cX1_harmOf 5 = .ok (.aload_n 0, 1) := by decide +kernel
theorem dX1_harmOf_6 : decode cX1_harmOf 6 = .ok (.getfield 17, 3) := by decide +kernel
theorem dX1_harmOf_9 : decode cX1_harmOf 9 = .ok (.getfield 21, 3) := by decide +kernel
theorem dX1_harmOf_12 : decode cX1_harmOf 12 = .ok (.if_icmp .ge 31, 3) := by decide +kernel
theorem dX1_harmOf_15 : decode cX1_harmOf 15 = .ok (.aload_n 0, 1) := by decide +kernel
theorem dX1_harmOf_16 : decode cX1_harmOf 16 = .ok (.getfield 11, 3) := by decide +kernel
theorem dX1_harmOf_19 : decode cX1_harmOf 19 = .ok (.iload_n 3, 1) := by decide +kernel
theorem dX1_harmOf_20 : decode cX1_harmOf 20 = .ok (.iaload, 1) := by decide +kernel
theorem dX1_harmOf_21 : decode cX1_harmOf 21 = .ok (.iload_n 1, 1) := by decide +kernel
theorem dX1_harmOf_22 : decode cX1_harmOf 22 = .ok (.if_icmp .ne 15, 3) := by decide +kernel
theorem dX1_harmOf_25 : decode cX1_harmOf 25 = .ok (.iload_n 2, 1) := by decide +kernel
theorem dX1_harmOf_26 : decode cX1_harmOf 26 = .ok (.aload_n 0, 1) := by decide +kernel
theorem dX1_harmOf_27 : decode cX1_harmOf 27 = .ok (.getfield 17, 3) := by decide +kernel
theorem dX1_harmOf_30 : decode cX1_harmOf 30 = .ok (.getfield 61, 3) := by decide +kernel
theorem dX1_harmOf_33 : decode cX1_harmOf 33 = .ok (.iload_n 3, 1) := by decide +kernel
theorem dX1_harmOf_34 : decode cX1_harmOf 34 = .ok (.iaload, 1) := by decide +kernel
theorem dX1_harmOf_35 : decode cX1_harmOf 35 = .ok (.iadd, 1) := by decide +kernel
theorem dX1_harmOf_36 : decode cX1_harmOf 36 = .ok (.istore_n 2, 1) := by decide +kernel
theorem dX1_harmOf_37 : decode cX1_harmOf 37 = .ok (.iinc 3 1, 3) := by decide +kernel
theorem dX1_harmOf_40 : decode cX1_harmOf 40 = .ok (.goto (-36), 3) := by decide +kernel
theorem dX1_harmOf_43 : decode cX1_harmOf 43 = .ok (.iload_n 2, 1) := by decide +kernel
theorem dX1_harmOf_44 : decode cX1_harmOf 44 = .ok (.ireturn, 1) := by decide +kernel
theorem dX1_hasTaken_0 : decode cX1_hasTaken 0 = .ok (.iload_n 1, 1) := by decide +kernel
theorem dX1_hasTaken_1 : decode cX1_hasTaken 1 = .ok (.istore_n 2, 1) := by decide +kernel
theorem dX1_hasTaken_2 : decode cX1_hasTaken 2 = .ok (.iload_n 2, 1) := by decide +kernel
theorem dX1_hasTaken_3 : decode cX1_hasTaken 3 = .ok (.aload_n 0, 1) := by decide +kernel
theorem dX1_hasTaken_4 : decode cX1_hasTaken 4 = .ok (.getfield 17, 3) := by decide +kernel
theorem dX1_hasTaken_7 : decode cX1_hasTaken 7 = .ok (.getfield 21, 3) := by decide +kernel
theorem dX1_hasTaken_10 : decode cX1_hasTaken 10 = .ok (.if_icmp .ge 34, 3) := by decide +kernel
theorem dX1_hasTaken_13 : decode cX1_hasTaken 13 = .ok (.aload_n 0, 1) := by decide +kernel
theorem dX1_hasTaken_14 : decode cX1_hasTaken 14 = .ok (.getfield 11, 3) := by decide +kernel
theorem dX1_hasTaken_17 : decode cX1_hasTaken 17 = .ok (.iload_n 2, 1) := by decide +kernel
theorem dX1_hasTaken_18 : decode cX1_hasTaken 18 = .ok (.iaload, 1) := by decide +kernel
theorem dX1_hasTaken_19 : decode cX1_hasTaken 19 = .ok (.iload_n 1, 1) := by decide +kernel
theorem dX1_hasTaken_20 : decode cX1_hasTaken 20 = .ok (.if_icmp .ne 18, 3) := by decide +kernel
theorem dX1_hasTaken_23 : decode cX1_hasTaken 23 = .ok (.aload_n 0, 1) := by decide +kernel
theorem dX1_hasTaken_24 : decode cX1_hasTaken 24 = .ok (.getfield 17, 3) := by decide +kernel
theorem dX1_hasTaken_27 : decode cX1_hasTaken 27 = .ok (.getfield 64, 3) := by decide +kernel
theorem dX1_hasTaken_30 : decode cX1_hasTaken 30 = .ok (.iload_n 2, 1) := by decide +kernel
theorem dX1_hasTaken_31 : decode cX1_hasTaken 31 = .ok (.iaload, 1) := by decide +kernel
theorem dX1_hasTaken_32 : decode cX1_hasTaken 32 = .ok (.iconst 1, 1) := by decide +kernel
theorem dX1_hasTaken_33 : decode cX1_hasTaken 33 = .ok (.if_icmp .ne 5, 3) := by decide +kernel
theorem dX1_hasTaken_36 : decode cX1_hasTaken 36 = .ok (.iconst 1, 1) := by decide +kernel
theorem dX1_hasTaken_37 : decode cX1_hasTaken 37 = .ok (.ireturn, 1) := by decide +kernel
theorem dX1_hasTaken_38 : decode cX1_hasTaken 38 = .ok (.iinc 2 1, 3) := by decide +kernel
theorem dX1_hasTaken_41 : decode cX1_hasTaken 41 = .ok (.goto (-39), 3) := by decide +kernel
theorem dX1_hasTaken_44 : decode cX1_hasTaken 44 = .ok (.iconst 0, 1) := by decide +kernel
theorem dX1_hasTaken_45 : decode cX1_hasTaken 45 = .ok (.ireturn, 1) := by decide +kernel
theorem dX1_howMany_0 : decode cX1_howMany 0 = .ok (.iconst 0, 1) := by decide +kernel
theorem dX1_howMany_1 : decode cX1_howMany 1 = .ok (.istore_n 1, 1) := by decide +kernel
theorem dX1_howMany_2 : decode cX1_howMany 2 = .ok (.iconst 0, 1) := by decide +kernel
theorem dX1_howMany_3 : decode cX1_howMany 3 = .ok (.istore_n 2, 1) := by decide +kernel
theorem dX1_howMany_4 : decode cX1_howMany 4 = .ok (.iload_n 2, 1) := by decide +kernel
theorem dX1_howMany_5 : decode cX1_howMany 5 = .ok (.aload_n 0, 1) := by decide +kernel
theorem dX1_howMany_6 : decode cX1_howMany 6 = .ok (.getfield 17, 3) := by decide +kernel
theorem dX1_howMany_9 : decode cX1_howMany 9 = .ok (.getfield 21, 3) := by decide +kernel
theorem dX1_howMany_12 : decode cX1_howMany 12 = .ok (.if_icmp .ge 22, 3) := by decide +kernel
theorem dX1_howMany_15 : decode cX1_howMany 15 = .ok (.aload_n 0, 1) := by decide +kernel
theorem dX1_howMany_16 : decode cX1_howMany 16 = .ok (.getfield 11, 3) := by decide +kernel
theorem dX1_howMany_19 : decode cX1_howMany 19 = .ok (.iload_n 2, 1) := by decide +kernel
theorem dX1_howMany_20 : decode cX1_howMany 20 = .ok (.iaload, 1) := by decide +kernel
theorem dX1_howMany_21 : decode cX1_howMany 21 = .ok (.iload_n 2, 1) := by decide +kernel
theorem dX1_howMany_22 : decode cX1_howMany 22 = .ok (.if_icmp .ne 6, 3) := by decide +kernel
theorem dX1_howMany_25 : decode cX1_howMany 25 = .ok (.iinc 1 1, 3) := by decide +kernel
theorem dX1_howMany_28 : decode cX1_howMany 28 = .ok (.iinc 2 1, 3) := by decide +kernel
theorem dX1_howMany_31 : decode cX1_howMany 31 = .ok (.goto (-27), 3) := by decide +kernel
theorem dX1_howMany_34 : decode cX1_howMany 34 = .ok (.iload_n 1, 1) := by decide +kernel
theorem dX1_howMany_35 : decode cX1_howMany 35 = .ok (.ireturn, 1) := by decide +kernel
theorem dX2_init_0 : decode cX2_init 0 = .ok (.aload_n 0, 1) := by decide +kernel
theorem dX2_init_1 : decode cX2_init 1 = .ok (.invokespecial 3, 3) := by decide +kernel
theorem dX2_init_4 : decode cX2_init 4 = .ok (.aload_n 0, 1) := by decide +kernel
theorem dX2_init_5 : decode cX2_init 5 = .ok (.bipush 40, 2) := by decide +kernel
theorem dX2_init_7 : decode cX2_init 7 = .ok (.newarray .int, 2) := by decide +kernel
theorem dX2_init_9 : decode cX2_init 9 = .ok (.putfield 11, 3) := by decide +kernel
theorem dX2_init_12 : decode cX2_init 12 = .ok (.aload_n 0, 1) := by decide +kernel
theorem dX2_init_13 : decode cX2_init 13 = .ok (.bipush 40, 2) := by decide +kernel
theorem dX2_init_15 : decode cX2_init 15 = .ok (.newarray .long, 2) := by decide +kernel
theorem dX2_init_17 : decode cX2_init 17 = .ok (.putfield 15, 3) := by decide +kernel
theorem dX2_init_20 : decode cX2_init 20 = .ok (.aload_n 0, 1) := by decide +kernel
theorem dX2_init_21 : decode cX2_init 21 = .ok (.bipush 40, 2) := by decide +kernel
theorem dX2_init_23 : decode cX2_init 23 = .ok (.newarray .boolean, 2) := by decide +kernel
theorem dX2_init_25 : decode cX2_init 25 = .ok (.putfield 19, 3) := by decide +kernel
theorem dX2_init_28 : decode cX2_init 28 = .ok (.aload_n 0, 1) := by decide +kernel
theorem dX2_init_29 : decode cX2_init 29 = .ok (.bipush 40, 2) := by decide +kernel
theorem dX2_init_31 : decode cX2_init 31 = .ok (.newarray .int, 2) := by decide +kernel
theorem dX2_init_33 : decode cX2_init 33 = .ok (.putfield 23, 3) := by decide +kernel
theorem dX2_init_36 : decode cX2_init 36 = .ok (.aload_n 0, 1) := by decide +kernel
theorem dX2_init_37 : decode cX2_init 37 = .ok (.bipush 40, 2) := by decide +kernel
theorem dX2_init_39 : decode cX2_init 39 = .ok (.newarray .int, 2) := by decide +kernel
theorem dX2_init_41 : decode cX2_init 41 = .ok (.putfield 26, 3) := by decide +kernel
theorem dX2_init_44 : decode cX2_init 44 = .ok (.aload_n 0, 1) := by decide +kernel
theorem dX2_init_45 : decode cX2_init 45 = .ok (.bipush 40, 2) := by decide +kernel
theorem dX2_init_47 : decode cX2_init 47 = .ok (.newarray .int, 2) := by decide +kernel
theorem dX2_init_49 : decode cX2_init 49 = .ok (.putfield 29, 3) := by decide +kernel
theorem dX2_init_52 : decode cX2_init 52 = .ok (.aload_n 0, 1) := by decide +kernel
theorem dX2_init_53 : decode cX2_init 53 = .ok (.iconst 0, 1) := by decide +kernel
theorem dX2_init_54 : decode cX2_init 54 = .ok (.putfield 32, 3) := by decide +kernel
theorem dX2_init_57 : decode cX2_init 57 = .ok (.return_, 1) := by decide +kernel
theorem dX2_add_0 : decode cX2_add 0 = .ok (.aload_n 0, 1) := by decide +kernel
theorem dX2_add_1 : decode cX2_add 1 = .ok (.getfield 11, 3) := by decide +kernel
theorem dX2_add_4 : decode cX2_add 4 = .ok (.aload_n 0, 1) := by decide +kernel
theorem dX2_add_5 : decode cX2_add 5 = .ok (.getfield 32, 3) := by decide +kernel
theorem dX2_add_8 : decode cX2_add 8 = .ok (.iload_n 1, 1) := by decide +kernel
theorem dX2_add_9 : decode cX2_add 9 = .ok (.iastore, 1) := by decide +kernel
theorem dX2_add_10 : decode cX2_add 10 = .ok (.aload_n 0, 1) := by decide +kernel
theorem dX2_add_11 : decode cX2_add 11 = .ok (.dup, 1) := by decide +kernel
theorem dX2_add_12 : decode cX2_add 12 = .ok (.getfield 32, 3) := by decide +kernel
theorem dX2_add_15 : decode cX2_add 15 = .ok (.iconst 1, 1) := by decide +kernel
theorem dX2_add_16 : decode cX2_add 16 = .ok (.iadd, 1) := by decide +kernel
theorem dX2_add_17 : decode cX2_add 17 = .ok (.putfield 32, 3) := by decide +kernel
theorem dX2_add_20 : decode cX2_add 20 = .ok (.aload_n 0, 1) := by decide +kernel
theorem dX2_add_21 : decode cX2_add 21 = .ok (.getfield 32, 3) := by decide +kernel
theorem dX2_add_24 : decode cX2_add 24 = .ok (.iconst 1, 1) := by decide +kernel
theorem dX2_add_25 : decode cX2_add 25 = .ok (.isub, 1) := by decide +kernel
theorem dX2_add_26 : decode cX2_add 26 = .ok (.ireturn, 1) := by decide +kernel
theorem dX2_setKin_0 : decode cX2_setKin 0 = .ok (.aload_n 0, 1) := by decide +kernel
theorem dX2_setKin_1 : decode cX2_setKin 1 = .ok (.getfield 15, 3) := by decide +kernel
theorem dX2_setKin_4 : decode cX2_setKin 4 = .ok (.iload_n 1, 1) := by decide +kernel
theorem dX2_setKin_5 : decode cX2_setKin 5 = .ok (.laload, 1) := by decide +kernel
theorem dX2_setKin_6 : decode cX2_setKin 6 = .ok (.iload_n 2, 1) := by decide +kernel
theorem dX2_setKin_7 : decode cX2_setKin 7 = .ok (.invokestatic 36, 3) := by decide +kernel
theorem dX2_setKin_10 : decode cX2_setKin 10 = .ok (.iload_n 3, 1) := by decide +kernel
theorem dX2_setKin_11 : decode cX2_setKin 11 = .ok (.if_icmp .ne 5, 3) := by decide +kernel
theorem dX2_setKin_14 : decode cX2_setKin 14 = .ok (.iconst 0, 1) := by decide +kernel
theorem dX2_setKin_15 : decode cX2_setKin 15 = .ok (.ireturn, 1) := by decide +kernel
theorem dX2_setKin_16 : decode cX2_setKin 16 = .ok (.aload_n 0, 1) := by decide +kernel
theorem dX2_setKin_17 : decode cX2_setKin 17 = .ok (.getfield 15, 3) := by decide +kernel
theorem dX2_setKin_20 : decode cX2_setKin 20 = .ok (.iload_n 1, 1) := by decide +kernel
theorem dX2_setKin_21 : decode cX2_setKin 21 = .ok (.dup2, 1) := by decide +kernel
theorem dX2_setKin_22 : decode cX2_setKin 22 = .ok (.laload, 1) := by decide +kernel
theorem dX2_setKin_23 : decode cX2_setKin 23 = .ok (.lconst 1, 1) := by decide +kernel
theorem dX2_setKin_24 : decode cX2_setKin 24 = .ok (.iload_n 2, 1) := by decide +kernel
theorem dX2_setKin_25 : decode cX2_setKin 25 = .ok (.lshl, 1) := by decide +kernel
theorem dX2_setKin_26 : decode cX2_setKin 26 = .ok (.lxor, 1) := by decide +kernel
theorem dX2_setKin_27 : decode cX2_setKin 27 = .ok (.lastore, 1) := by decide +kernel
theorem dX2_setKin_28 : decode cX2_setKin 28 = .ok (.aload_n 0, 1) := by decide +kernel
theorem dX2_setKin_29 : decode cX2_setKin 29 = .ok (.getfield 15, 3) := by decide +kernel
theorem dX2_setKin_32 : decode cX2_setKin 32 = .ok (.iload_n 2, 1) := by decide +kernel
theorem dX2_setKin_33 : decode cX2_setKin 33 = .ok (.dup2, 1) := by decide +kernel
theorem dX2_setKin_34 : decode cX2_setKin 34 = .ok (.laload, 1) := by decide +kernel
theorem dX2_setKin_35 : decode cX2_setKin 35 = .ok (.lconst 1, 1) := by decide +kernel
theorem dX2_setKin_36 : decode cX2_setKin 36 = .ok (.iload_n 1, 1) := by decide +kernel
theorem dX2_setKin_37 : decode cX2_setKin 37 = .ok (.lshl, 1) := by decide +kernel
theorem dX2_setKin_38 : decode cX2_setKin 38 = .ok (.lxor, 1) := by decide +kernel
theorem dX2_setKin_39 : decode cX2_setKin 39 = .ok (.lastore, 1) := by decide +kernel
theorem dX2_setKin_40 : decode cX2_setKin 40 = .ok (.iconst 1, 1) := by decide +kernel
theorem dX2_setKin_41 : decode cX2_setKin 41 = .ok (.ireturn, 1) := by decide +kernel
theorem dX2_withKin_0 : decode cX2_withKin 0 = .ok (.lload_n 1, 1) := by decide +kernel
theorem dX2_withKin_1 : decode cX2_withKin 1 = .ok (.lstore_n 3, 1) := by decide +kernel
theorem dX2_withKin_2 : decode cX2_withKin 2 = .ok (.iconst 0, 1) := by decide +kernel
theorem dX2_withKin_3 : decode cX2_withKin 3 = .ok (.istore 5, 2) := by decide +kernel
theorem dX2_withKin_5 : decode cX2_withKin 5 = .ok (.iload 5, 2) := by decide +kernel
theorem dX2_withKin_7 : decode cX2_withKin 7 = .ok (.aload_n 0, 1) := by decide +kernel
theorem dX2_withKin_8 : decode cX2_withKin 8 = .ok (.getfield 32, 3) := by decide +kernel
theorem dX2_withKin_11 : decode cX2_withKin 11 = .ok (.if_icmp .ge 28, 3) := by decide +kernel
theorem dX2_withKin_14 : decode cX2_withKin 14 = .ok (.lload_n 1, 1) := by decide +kernel
theorem dX2_withKin_15 : decode cX2_withKin 15 = .ok (.iload 5, 2) := by decide +kernel
theorem dX2_withKin_17 : decode cX2_withKin 17 = .ok (.invokestatic 36, 3) := by decide +kernel
theorem dX2_withKin_20 : decode cX2_withKin 20 = .ok (.ifCond .eq 13, 3) := by decide +kernel
theorem dX2_withKin_23 : decode cX2_withKin 23 = .ok (.lload_n 3, 1) := by decide +kernel
theorem dX2_withKin_24 : decode cX2_withKin 24 = .ok (.aload_n 0, 1) := by decide +kernel
theorem dX2_withKin_25 : decode cX2_withKin 25 = .ok (.getfield 15, 3) := by decide +kernel
theorem dX2_withKin_28 : decode cX2_withKin 28 = .ok (.iload 5, 2) := by decide +kernel
theorem dX2_withKin_30 : decode cX2_withKin 30 = .ok (.laload, 1) := by decide +kernel
theorem dX2_withKin_31 : decode cX2_withKin 31 = .ok (.lor, 1) := by decide +kernel
theorem dX2_withKin_32 : decode cX2_withKin 32 = .ok (.lstore_n 3, 1) := by decide +kernel
theorem dX2_withKin_33 : decode cX2_withKin 33 = .ok (.iinc 5 1, 3) := by decide +kernel
theorem dX2_withKin_36 : decode cX2_withKin 36 = .ok (.goto (-31), 3) := by decide +kernel
theorem dX2_withKin_39 : decode cX2_withKin 39 = .ok (.lload_n 3, 1) := by decide +kernel
theorem dX2_withKin_40 : decode cX2_withKin 40 = .ok (.lreturn, 1) := by decide +kernel
theorem dX2_judgesOutside_0 : decode cX2_judgesOutside 0 = .ok (.lconst 0, 1) := by decide +kernel
theorem dX2_judgesOutside_1 : decode cX2_judgesOutside 1 = .ok (.lstore_n 2, 1) := by decide +kernel
theorem dX2_judgesOutside_2 : decode cX2_judgesOutside 2 = .ok (.iconst 0, 1) := by decide +kernel
theorem dX2_judgesOutside_3 : decode cX2_judgesOutside 3 = .ok (.istore 4, 2) := by decide +kernel
theorem dX2_judgesOutside_5 : decode cX2_judgesOutside 5 = .ok (.iload 4, 2) := by decide +kernel
theorem dX2_judgesOutside_7 : decode cX2_judgesOutside 7 = .ok (.aload_n 0, 1) := by decide +kernel
theorem dX2_judgesOutside_8 : decode cX2_judgesOutside 8 = .ok (.getfield 32, 3) := by decide +kernel
theorem dX2_judgesOutside_11 : decode cX2_judgesOutside 11 = .ok (.if_icmp .ge 37, 3) := by decide +kernel
theorem dX2_judgesOutside_14 : decode cX2_judgesOutside 14 = .ok (.aload_n 0, 1) := by decide +kernel
theorem dX2_judgesOutside_15 : decode cX2_judgesOutside 15 = .ok (.getfield 19, 3) := by decide +kernel
theorem dX2_judgesOutside_18 : decode cX2_judgesOutside 18 = .ok (.iload 4, 2) := by decide +kernel
theorem dX2_judgesOutside_20 : decode cX2_judgesOutside 20 = .ok (.baload, 1) := by decide +kernel
theorem dX2_judgesOutside_21 : decode cX2_judgesOutside 21 = .ok (.ifCond .eq 21, 3) := by decide +kernel
theorem dX2_judgesOutside_24 : decode cX2_judgesOutside 24 = .ok (.aload_n 0, 1) := by decide +kernel
theorem dX2_judgesOutside_25 : decode cX2_judgesOutside 25 = .ok (.getfield 11, 3) := by decide +kernel
theorem dX2_judgesOutside_28 : decode cX2_judgesOutside 28 = .ok (.iload 4, 2) := by decide +kernel
theorem dX2_judgesOutside_30 : decode cX2_judgesOutside 30 = .ok (.iaload, 1) := by decide +kernel
theorem dX2_judgesOutside_31 : decode cX2_judgesOutside 31 = .ok (.iload_n 1, 1) := by decide +kernel
theorem dX2_judgesOutside_32 : decode cX2_judgesOutside 32 = .ok (.if_icmp .eq 10, 3) := by decide +kernel
theorem dX2_judgesOutside_35 : decode cX2_judgesOutside 35 = .ok (.lload_n 2, 1) := by decide +kernel
theorem dX2_judgesOutside_36 : decode cX2_judgesOutside 36 = .ok (.lconst 1, 1) := by decide +kernel
theorem dX2_judgesOutside_37 : decode cX2_judgesOutside 37 = .ok (.iload 4, 2) := by decide +kernel
theorem dX2_judgesOutside_39 : decode cX2_judgesOutside 39 = .ok (.lshl, 1) := by decide +kernel
theorem dX2_judgesOutside_40 : decode cX2_judgesOutside 40 = .ok (.lor, 1) := by decide +kernel
theorem dX2_judgesOutside_41 : decode cX2_judgesOutside 41 = .ok (.lstore_n 2, 1) := by decide +kernel
theorem dX2_judgesOutside_42 : decode cX2_judgesOutside 42 = .ok (.iinc 4 1, 3) := by decide +kernel
theorem dX2_judgesOutside_45 : decode cX2_judgesOutside 45 = .ok (.goto (-40), 3) := by decide +kernel
theorem dX2_judgesOutside_48 : decode cX2_judgesOutside 48 = .ok (.lload_n 2, 1) := by decide +kernel
theorem dX2_judgesOutside_49 : decode cX2_judgesOutside 49 = .ok (.lreturn, 1) := by decide +kernel
theorem dX2_leastNamed_0 : decode cX2_leastNamed 0 = .ok (.bipush (-9), 2) := by decide +kernel
theorem dX2_leastNamed_2 : decode cX2_leastNamed 2 = .ok (.istore_n 3, 1) := by decide +kernel
theorem dX2_leastNamed_3 : decode cX2_leastNamed 3 = .ok (.iconst 0, 1) := by decide +kernel
theorem dX2_leastNamed_4 : decode cX2_leastNamed 4 = .ok (.istore 4, 2) := by decide +kernel
theorem dX2_leastNamed_6 : decode cX2_leastNamed 6 = .ok (.iload 4, 2) := by decide +kernel
theorem dX2_leastNamed_8 : decode cX2_leastNamed 8 = .ok (.aload_n 0, 1) := by decide +kernel
theorem dX2_leastNamed_9 : decode cX2_leastNamed 9 = .ok (.getfield 32, 3) := by decide +kernel
theorem dX2_leastNamed_12 : decode cX2_leastNamed 12 = .ok (.if_icmp .ge 43, 3) := by decide +kernel
theorem dX2_leastNamed_15 : decode cX2_leastNamed 15 = .ok (.lload_n 1, 1) := by decide +kernel
theorem dX2_leastNamed_16 : decode cX2_leastNamed 16 = .ok (.iload 4, 2) := by decide +kernel
theorem dX2_leastNamed_18 : decode cX2_leastNamed 18 = .ok (.invokestatic 36, 3) := by decide +kernel
theorem dX2_leastNamed_21 : decode cX2_leastNamed 21 = .ok (.ifCond .eq 28, 3) := by decide +kernel
theorem dX2_leastNamed_24 : decode cX2_leastNamed 24 = .ok (.iload_n 3, 1) := by decide +kernel
theorem dX2_leastNamed_25 : decode cX2_leastNamed 25 = .ok (.bipush (-9), 2) := by decide +kernel
theorem dX2_leastNamed_27 : decode cX2_leastNamed 27 = .ok (.if_icmp .eq 19, 3) := by decide +kernel
theorem dX2_leastNamed_30 : decode cX2_leastNamed 30 = .ok (.aload_n 0, 1) := by decide +kernel
theorem dX2_leastNamed_31 : decode cX2_leastNamed 31 = .ok (.getfield 23, 3) := by decide +kernel
theorem dX2_leastNamed_34 : decode cX2_leastNamed 34 = .ok (.iload 4, 2) := by decide +kernel
theorem dX2_leastNamed_36 : decode cX2_leastNamed 36 = .ok (.iaload, 1) := by decide +kernel
theorem dX2_leastNamed_37 : decode cX2_leastNamed 37 = .ok (.aload_n 0, 1) := by decide +kernel
theorem dX2_leastNamed_38 : decode cX2_leastNamed 38 = .ok (.getfield 23, 3) := by decide +kernel
theorem dX2_leastNamed_41 : decode cX2_leastNamed 41 = .ok (.iload_n 3, 1) := by decide +kernel
theorem dX2_leastNamed_42 : decode cX2_leastNamed 42 = .ok (.iaload, 1) := by decide +kernel
theorem dX2_leastNamed_43 : decode cX2_leastNamed 43 = .ok (.if_icmp .ge 6, 3) := by decide +kernel
theorem dX2_leastNamed_46 : decode cX2_leastNamed 46 = .ok (.iload 4, 2) := by decide +kernel
theorem dX2_leastNamed_48 : decode cX2_leastNamed 48 = .ok (.istore_n 3, 1) := by decide +kernel
theorem dX2_leastNamed_49 : decode cX2_leastNamed 49 = .ok (.iinc 4 1, 3) := by decide +kernel
theorem dX2_leastNamed_52 : decode cX2_leastNamed 52 = .ok (.goto (-46), 3) := by decide +kernel
theorem dX2_leastNamed_55 : decode cX2_leastNamed 55 = .ok (.iload_n 3, 1) := by decide +kernel
theorem dX2_leastNamed_56 : decode cX2_leastNamed 56 = .ok (.ireturn, 1) := by decide +kernel
theorem dX2_coinsInAll_0 : decode cX2_coinsInAll 0 = .ok (.iconst 0, 1) := by decide +kernel
theorem dX2_coinsInAll_1 : decode cX2_coinsInAll 1 = .ok (.istore_n 1, 1) := by decide +kernel
theorem dX2_coinsInAll_2 : decode cX2_coinsInAll 2 = .ok (.iconst 0, 1) := by decide +kernel
theorem dX2_coinsInAll_3 : decode cX2_coinsInAll 3 = .ok (.istore_n 2, 1) := by decide +kernel
theorem dX2_coinsInAll_4 : decode cX2_coinsInAll 4 = .ok (.iload_n 2, 1) := by decide +kernel
theorem dX2_coinsInAll_5 : decode cX2_coinsInAll 5 = .ok (.aload_n 0, 1) := by decide +kernel
theorem dX2_coinsInAll_6 : decode cX2_coinsInAll 6 = .ok (.getfield 32, 3) := by decide +kernel
theorem dX2_coinsInAll_9 : decode cX2_coinsInAll 9 = .ok (.if_icmp .ge 25, 3) := by decide +kernel
theorem dX2_coinsInAll_12 : decode cX2_coinsInAll 12 = .ok (.iload_n 1, 1) := by decide +kernel
theorem dX2_coinsInAll_13 : decode cX2_coinsInAll 13 = .ok (.aload_n 0, 1) := by decide +kernel
theorem dX2_coinsInAll_14 : decode cX2_coinsInAll 14 = .ok (.getfield 26, 3) := by decide +kernel
theorem dX2_coinsInAll_17 : decode cX2_coinsInAll 17 = .ok (.iload_n 2, 1) := by decide +kernel
theorem dX2_coinsInAll_18 : decode cX2_coinsInAll 18 = .ok (.iaload, 1) := by decide +kernel
theorem dX2_coinsInAll_19 : decode cX2_coinsInAll 19 = .ok (.aload_n 0, 1) := by decide +kernel
theorem dX2_coinsInAll_20 : decode cX2_coinsInAll 20 = .ok (.getfield 29, 3) := by decide +kernel
theorem dX2_coinsInAll_23 : decode cX2_coinsInAll 23 = .ok (.iload_n 2, 1) := by decide +kernel
theorem dX2_coinsInAll_24 : decode cX2_coinsInAll 24 = .ok (.iaload, 1) := by decide +kernel
theorem dX2_coinsInAll_25 : decode cX2_coinsInAll 25 = .ok (.iadd, 1) := by decide +kernel
theorem dX2_coinsInAll_26 : decode cX2_coinsInAll 26 = .ok (.iadd, 1) := by decide +kernel
theorem dX2_coinsInAll_27 : decode cX2_coinsInAll 27 = .ok (.istore_n 1, 1) := by decide +kernel
theorem dX2_coinsInAll_28 : decode cX2_coinsInAll 28 = .ok (.iinc 2 1, 3) := by decide +kernel
theorem dX2_coinsInAll_31 : decode cX2_coinsInAll 31 = .ok (.goto (-27), 3) := by decide +kernel
theorem dX2_coinsInAll_34 : decode cX2_coinsInAll 34 = .ok (.iload_n 1, 1) := by decide +kernel
theorem dX2_coinsInAll_35 : decode cX2_coinsInAll 35 = .ok (.ireturn, 1) := by decide +kernel
theorem dX3_init_0 : decode cX3_init 0 = .ok (.aload_n 0, 1) := by decide +kernel
theorem dX3_init_1 : decode cX3_init 1 = .ok (.invokespecial 3, 3) := by decide +kernel
theorem dX3_init_4 : decode cX3_init 4 = .ok (.aload_n 0, 1) := by decide +kernel
theorem dX3_init_5 : decode cX3_init 5 = .ok (.bipush 40, 2) := by decide +kernel
theorem dX3_init_7 : decode cX3_init 7 = .ok (.newarray .int, 2) := by decide +kernel
theorem dX3_init_9 : decode cX3_init 9 = .ok (.putfield 11, 3) := by decide +kernel
theorem dX3_init_12 : decode cX3_init 12 = .ok (.aload_n 0, 1) := by decide +kernel
theorem dX3_init_13 : decode cX3_init 13 = .ok (.bipush 40, 2) := by decide +kernel
theorem dX3_init_15 : decode cX3_init 15 = .ok (.newarray .int, 2) := by decide +kernel
theorem dX3_init_17 : decode cX3_init 17 = .ok (.putfield 15, 3) := by decide +kernel
theorem dX3_init_20 : decode cX3_init 20 = .ok (.aload_n 0, 1) := by decide +kernel
theorem dX3_init_21 : decode cX3_init 21 = .ok (.bipush 40, 2) := by decide +kernel
theorem dX3_init_23 : decode cX3_init 23 = .ok (.newarray .int, 2) := by decide +kernel
theorem dX3_init_25 : decode cX3_init 25 = .ok (.putfield 18, 3) := by decide +kernel
theorem dX3_init_28 : decode cX3_init 28 = .ok (.aload_n 0, 1) := by decide +kernel
theorem dX3_init_29 : decode cX3_init 29 = .ok (.bipush 40, 2) := by decide +kernel
theorem dX3_init_31 : decode cX3_init 31 = .ok (.newarray .int, 2) := by decide +kernel
theorem dX3_init_33 : decode cX3_init 33 = .ok (.putfield 21, 3) := by decide +kernel
theorem dX3_init_36 : decode cX3_init 36 = .ok (.aload_n 0, 1) := by decide +kernel
theorem dX3_init_37 : decode cX3_init 37 = .ok (.bipush 40, 2) := by decide +kernel
theorem dX3_init_39 : decode cX3_init 39 = .ok (.newarray .int, 2) := by decide +kernel
theorem dX3_init_41 : decode cX3_init 41 = .ok (.putfield 24, 3) := by decide +kernel
theorem dX3_init_44 : decode cX3_init 44 = .ok (.aload_n 0, 1) := by decide +kernel
theorem dX3_init_45 : decode cX3_init 45 = .ok (.bipush 40, 2) := by decide +kernel
theorem dX3_init_47 : decode cX3_init 47 = .ok (.newarray .int, 2) := by decide +kernel
theorem dX3_init_49 : decode cX3_init 49 = .ok (.putfield 27, 3) := by decide +kernel
theorem dX3_init_52 : decode cX3_init 52 = .ok (.aload_n 0, 1) := by decide +kernel
theorem dX3_init_53 : decode cX3_init 53 = .ok (.bipush 40, 2) := by decide +kernel
theorem dX3_init_55 : decode cX3_init 55 = .ok (.newarray .int, 2) := by decide +kernel
theorem dX3_init_57 : decode cX3_init 57 = .ok (.putfield 30, 3) := by decide +kernel
theorem dX3_init_60 : decode cX3_init 60 = .ok (.aload_n 0, 1) := by decide +kernel
theorem dX3_init_61 : decode cX3_init 61 = .ok (.bipush 40, 2) := by decide +kernel
theorem dX3_init_63 : decode cX3_init 63 = .ok (.newarray .int, 2) := by decide +kernel
theorem dX3_init_65 : decode cX3_init 65 = .ok (.putfield 33, 3) := by decide +kernel
theorem dX3_init_68 : decode cX3_init 68 = .ok (.aload_n 0, 1) := by decide +kernel
theorem dX3_init_69 : decode cX3_init 69 = .ok (.bipush 40, 2) := by decide +kernel
theorem dX3_init_71 : decode cX3_init 71 = .ok (.newarray .int, 2) := by decide +kernel
theorem dX3_init_73 : decode cX3_init 73 = .ok (.putfield 36, 3) := by decide +kernel
theorem dX3_init_76 : decode cX3_init 76 = .ok (.aload_n 0, 1) := by decide +kernel
theorem dX3_init_77 : decode cX3_init 77 = .ok (.bipush 40, 2) := by decide +kernel
theorem dX3_init_79 : decode cX3_init 79 = .ok (.newarray .long, 2) := by decide +kernel
theorem dX3_init_81 : decode cX3_init 81 = .ok (.putfield 39, 3) := by decide +kernel
theorem dX3_init_84 : decode cX3_init 84 = .ok (.aload_n 0, 1) := by decide +kernel
theorem dX3_init_85 : decode cX3_init 85 = .ok (.iconst 0, 1) := by decide +kernel
theorem dX3_init_86 : decode cX3_init 86 = .ok (.putfield 43, 3) := by decide +kernel
theorem dX3_init_89 : decode cX3_init 89 = .ok (.return_, 1) := by decide +kernel
theorem dX3_add_0 : decode cX3_add 0 = .ok (.aload_n 0, 1) := by decide +kernel
theorem dX3_add_1 : decode cX3_add 1 = .ok (.getfield 11, 3) := by decide +kernel
theorem dX3_add_4 : decode cX3_add 4 = .ok (.aload_n 0, 1) := by decide +kernel
theorem dX3_add_5 : decode cX3_add 5 = .ok (.getfield 43, 3) := by decide +kernel
theorem dX3_add_8 : decode cX3_add 8 = .ok (.iload_n 1, 1) := by decide +kernel
theorem dX3_add_9 : decode cX3_add 9 = .ok (.iastore, 1) := by decide +kernel
theorem dX3_add_10 : decode cX3_add 10 = .ok (.aload_n 0, 1) := by decide +kernel
theorem dX3_add_11 : decode cX3_add 11 = .ok (.getfield 15, 3) := by decide +kernel
theorem dX3_add_14 : decode cX3_add 14 = .ok (.aload_n 0, 1) := by decide +kernel
theorem dX3_add_15 : decode cX3_add 15 = .ok (.getfield 43, 3) := by decide +kernel
theorem dX3_add_18 : decode cX3_add 18 = .ok (.iload_n 2, 1) := by decide +kernel
theorem dX3_add_19 : decode cX3_add 19 = .ok (.iastore, 1) := by decide +kernel
theorem dX3_add_20 : decode cX3_add 20 = .ok (.aload_n 0, 1) := by decide +kernel
theorem dX3_add_21 : decode cX3_add 21 = .ok (.getfield 18, 3) := by decide +kernel
theorem dX3_add_24 : decode cX3_add 24 = .ok (.aload_n 0, 1) := by decide +kernel
theorem dX3_add_25 : decode cX3_add 25 = .ok (.getfield 43, 3) := by decide +kernel
theorem dX3_add_28 : decode cX3_add 28 = .ok (.iload_n 3, 1) := by decide +kernel
theorem dX3_add_29 : decode cX3_add 29 = .ok (.iastore, 1) := by decide +kernel
theorem dX3_add_30 : decode cX3_add 30 = .ok (.aload_n 0, 1) := by decide +kernel
theorem dX3_add_31 : decode cX3_add 31 = .ok (.getfield 21, 3) := by decide +kernel
theorem dX3_add_34 : decode cX3_add 34 = .ok (.aload_n 0, 1) := by decide +kernel
theorem dX3_add_35 : decode cX3_add 35 = .ok (.getfield 43, 3) := by decide +kernel
theorem dX3_add_38 : decode cX3_add 38 = .ok (.iload 4, 2) := by decide +kernel
theorem dX3_add_40 : decode cX3_add 40 = .ok (.iastore, 1) := by decide +kernel
theorem dX3_add_41 : decode cX3_add 41 = .ok (.aload_n 0, 1) := by decide +kernel
theorem dX3_add_42 : decode cX3_add 42 = .ok (.getfield 24, 3) := by decide +kernel
theorem dX3_add_45 : decode cX3_add 45 = .ok (.aload_n 0, 1) := by decide +kernel
theorem dX3_add_46 : decode cX3_add 46 = .ok (.getfield 43, 3) := by decide +kernel
theorem dX3_add_49 : decode cX3_add 49 = .ok (.iload 5, 2) := by decide +kernel
theorem dX3_add_51 : decode cX3_add 51 = .ok (.iastore, 1) := by decide +kernel
theorem dX3_add_52 : decode cX3_add 52 = .ok (.aload_n 0, 1) := by decide +kernel
theorem dX3_add_53 : decode cX3_add 53 = .ok (.dup, 1) := by decide +kernel
theorem dX3_add_54 : decode cX3_add 54 = .ok (.getfield 43, 3) := by decide +kernel
theorem dX3_add_57 : decode cX3_add 57 = .ok (.iconst 1, 1) := by decide +kernel
theorem dX3_add_58 : decode cX3_add 58 = .ok (.iadd, 1) := by decide +kernel
theorem dX3_add_59 : decode cX3_add 59 = .ok (.putfield 43, 3) := by decide +kernel
theorem dX3_add_62 : decode cX3_add 62 = .ok (.aload_n 0, 1) := by decide +kernel
theorem dX3_add_63 : decode cX3_add 63 = .ok (.getfield 43, 3) := by decide +kernel
theorem dX3_add_66 : decode cX3_add 66 = .ok (.iconst 1, 1) := by decide +kernel
theorem dX3_add_67 : decode cX3_add 67 = .ok (.isub, 1) := by decide +kernel
theorem dX3_add_68 : decode cX3_add 68 = .ok (.ireturn, 1) := by decide +kernel
theorem dX3_teamSize_0 : decode cX3_teamSize 0 = .ok (.aload_n 0, 1) := by decide +kernel
theorem dX3_teamSize_1 : decode cX3_teamSize 1 = .ok (.getfield 39, 3) := by decide +kernel
theorem dX3_teamSize_4 : decode cX3_teamSize 4 = .ok (.iload_n 1, 1) := by decide +kernel
theorem dX3_teamSize_5 : decode cX3_teamSize 5 = .ok (.laload, 1) := by decide +kernel
theorem dX3_teamSize_6 : decode cX3_teamSize 6 = .ok (.invokestatic 47, 3) := by decide +kernel
theorem dX3_teamSize_9 : decode cX3_teamSize 9 = .ok (.ireturn, 1) := by decide +kernel
theorem dX3_handsOf_0 : decode cX3_handsOf 0 = .ok (.aload_n 0, 1) := by decide +kernel
theorem dX3_handsOf_1 : decode cX3_handsOf 1 = .ok (.getfield 39, 3) := by decide +kernel
theorem dX3_handsOf_4 : decode cX3_handsOf 4 = .ok (.iload_n 1, 1) := by decide +kernel
theorem dX3_handsOf_5 : decode cX3_handsOf 5 = .ok (.laload, 1) := by decide +kernel
theorem dX3_handsOf_6 : decode cX3_handsOf 6 = .ok (.lconst 1, 1) := by decide +kernel
theorem dX3_handsOf_7 : decode cX3_handsOf 7 = .ok (.aload_n 0, 1) := by decide +kernel
theorem dX3_handsOf_8 : decode cX3_handsOf 8 = .ok (.getfield 11, 3) := by decide +kernel
theorem dX3_handsOf_11 : decode cX3_handsOf 11 = .ok (.iload_n 1, 1) := by decide +kernel
theorem dX3_handsOf_12 : decode cX3_handsOf 12 = .ok (.iaload, 1) := by decide +kernel
theorem dX3_handsOf_13 : decode cX3_handsOf 13 = .ok (.lshl, 1) := by decide +kernel
theorem dX3_handsOf_14 : decode cX3_handsOf 14 = .ok (.lor, 1) := by decide +kernel
theorem dX3_handsOf_15 : decode cX3_handsOf 15 = .ok (.lreturn, 1) := by decide +kernel
theorem dX3_areAlike_0 : decode cX3_areAlike 0 = .ok (.aload_n 0, 1) := by decide +kernel
theorem dX3_areAlike_1 : decode cX3_areAlike 1 = .ok (.getfield 15, 3) := by decide +kernel
theorem dX3_areAlike_4 : decode cX3_areAlike 4 = .ok (.iload_n 1, 1) := by decide +kernel
theorem dX3_areAlike_5 : decode cX3_areAlike 5 = .ok (.iaload, 1) := by decide +kernel
theorem dX3_areAlike_6 : decode cX3_areAlike 6 = .ok (.aload_n 0, 1) := by decide +kernel
theorem dX3_areAlike_7 : decode cX3_areAlike 7 = .ok (.getfield 15, 3) := by decide +kernel
theorem dX3_areAlike_10 : decode cX3_areAlike 10 = .ok (.iload_n 2, 1) := by decide +kernel
theorem dX3_areAlike_11 : decode cX3_areAlike 11 = .ok (.iaload, 1) := by decide +kernel
theorem dX3_areAlike_12 : decode cX3_areAlike 12 = .ok (.if_icmp .ne 26, 3) := by decide +kernel
theorem dX3_areAlike_15 : decode cX3_areAlike 15 = .ok (.aload_n 0, 1) := by decide +kernel
theorem dX3_areAlike_16 : decode cX3_areAlike 16 = .ok (.getfield 18, 3) := by decide +kernel
theorem dX3_areAlike_19 : decode cX3_areAlike 19 = .ok (.iload_n 1, 1) := by decide +kernel
theorem dX3_areAlike_20 : decode cX3_areAlike 20 = .ok (.iaload, 1) := by decide +kernel
theorem dX3_areAlike_21 : decode cX3_areAlike 21 = .ok (.aload_n 0, 1) := by decide +kernel
theorem dX3_areAlike_22 : decode cX3_areAlike 22 = .ok (.getfield 18, 3) := by decide +kernel
theorem dX3_areAlike_25 : decode cX3_areAlike 25 = .ok (.iload_n 2, 1) := by decide +kernel
theorem dX3_areAlike_26 : decode cX3_areAlike 26 = .ok (.iaload, 1) := by decide +kernel
theorem dX3_areAlike_27 : decode cX3_areAlike 27 = .ok (.invokestatic 53, 3) := by decide +kernel
theorem dX3_areAlike_30 : decode cX3_areAlike 30 = .ok (.iload_n 3, 1) := by decide +kernel
theorem dX3_areAlike_31 : decode cX3_areAlike 31 = .ok (.if_icmp .lt 7, 3) := by decide +kernel
theorem dX3_areAlike_34 : decode cX3_areAlike 34 = .ok (.iconst 1, 1) := by decide +kernel
theorem dX3_areAlike_35 : decode cX3_areAlike 35 = .ok (.goto 4, 3) := by decide +kernel
theorem dX3_areAlike_38 : decode cX3_areAlike 38 = .ok (.iconst 0, 1) := by decide +kernel
theorem dX3_areAlike_39 : decode cX3_areAlike 39 = .ok (.ireturn, 1) := by decide +kernel
theorem dX3_isAhead_0 : decode cX3_isAhead 0 = .ok (.aload_n 0, 1) := by decide +kernel
theorem dX3_isAhead_1 : decode cX3_isAhead 1 = .ok (.getfield 24, 3) := by decide +kernel
theorem dX3_isAhead_4 : decode cX3_isAhead 4 = .ok (.iload_n 1, 1) := by decide +kernel
theorem dX3_isAhead_5 : decode cX3_isAhead 5 = .ok (.iaload, 1) := by decide +kernel
theorem dX3_isAhead_6 : decode cX3_isAhead 6 = .ok (.aload_n 0, 1) := by decide +kernel
theorem dX3_isAhead_7 : decode cX3_isAhead 7 = .ok (.getfield 24, 3) := by decide +kernel
theorem dX3_isAhead_10 : decode cX3_isAhead 10 = .ok (.iload_n 2, 1) := by decide +kernel
theorem dX3_isAhead_11 : decode cX3_isAhead 11 = .ok (.iaload, 1) := by decide +kernel
theorem dX3_isAhead_12 : decode cX3_isAhead 12 = .ok (.if_icmp .eq 24, 3) := by decide +kernel
theorem dX3_isAhead_15 : decode cX3_isAhead 15 = .ok (.aload_n 0, 1) := by decide +kernel
theorem dX3_isAhead_16 : decode cX3_isAhead 16 = .ok (.getfield 24, 3) := by decide +kernel
theorem dX3_isAhead_19 : decode cX3_isAhead 19 = .ok (.iload_n 1, 1) := by decide +kernel
theorem dX3_isAhead_20 : decode cX3_isAhead 20 = .ok (.iaload, 1) := by decide +kernel
theorem dX3_isAhead_21 : decode cX3_isAhead 21 = .ok (.aload_n 0, 1) := by decide +kernel
theorem dX3_isAhead_22 : decode cX3_isAhead 22 = .ok (.getfield 24, 3) := by decide +kernel
theorem dX3_isAhead_25 : decode cX3_isAhead 25 = .ok (.iload_n 2, 1) := by decide +kernel
theorem dX3_isAhead_26 : decode cX3_isAhead 26 = .ok (.iaload, 1) := by decide +kernel
theorem dX3_isAhead_27 : decode cX3_isAhead 27 = .ok (.if_icmp .ge 7, 3) := by decide +kernel
theorem dX3_isAhead_30 : decode cX3_isAhead 30 = .ok (.iconst 1, 1) := by decide +kernel
theorem dX3_isAhead_31 : decode cX3_isAhead 31 = .ok (.goto 4, 3) := by decide +kernel
theorem dX3_isAhead_34 : decode cX3_isAhead 34 = .ok (.iconst 0, 1) := by decide +kernel
theorem dX3_isAhead_35 : decode cX3_isAhead 35 = .ok (.ireturn, 1) := by decide +kernel
theorem dX3_isAhead_36 : decode cX3_isAhead 36 = .ok (.aload_n 0, 1) := by decide +kernel
theorem dX3_isAhead_37 : decode cX3_isAhead 37 = .ok (.getfield 21, 3) := by decide +kernel
theorem dX3_isAhead_40 : decode cX3_isAhead 40 = .ok (.iload_n 1, 1) := by decide +kernel
theorem dX3_isAhead_41 : decode cX3_isAhead 41 = .ok (.iaload, 1) := by decide +kernel
theorem dX3_isAhead_42 : decode cX3_isAhead 42 = .ok (.aload_n 0, 1) := by decide +kernel
theorem dX3_isAhead_43 : decode cX3_isAhead 43 = .ok (.getfield 21, 3) := by decide +kernel
theorem dX3_isAhead_46 : decode cX3_isAhead 46 = .ok (.iload_n 2, 1) := by decide +kernel
theorem dX3_isAhead_47 : decode cX3_isAhead 47 = .ok (.iaload, 1) := by decide +kernel
theorem dX3_isAhead_48 : decode cX3_isAhead 48 = .ok (.if_icmp .eq 24, 3) := by decide +kernel
theorem dX3_isAhead_51 : decode cX3_isAhead 51 = .ok (.aload_n 0, 1) := by decide +kernel
theorem dX3_isAhead_52 : decode cX3_isAhead 52 = .ok (.getfield 21, 3) := by decide +kernel
theorem dX3_isAhead_55 : decode cX3_isAhead 55 = .ok (.iload_n 1, 1) := by decide +kernel
theorem dX3_isAhead_56 : decode cX3_isAhead 56 = .ok (.iaload, 1) := by decide +kernel
theorem dX3_isAhead_57 : decode cX3_isAhead 57 = .ok (.aload_n 0, 1) := by decide +kernel
theorem dX3_isAhead_58 : decode cX3_isAhead 58 = .ok (.getfield 21, 3) := by decide +kernel
theorem dX3_isAhead_61 : decode cX3_isAhead 61 = .ok (.iload_n 2, 1) := by decide +kernel
theorem dX3_isAhead_62 : decode cX3_isAhead 62 = .ok (.iaload, 1) := by decide +kernel
theorem dX3_isAhead_63 : decode cX3_isAhead 63 = .ok (.if_icmp .le 7, 3) := by decide +kernel
theorem dX3_isAhead_66 : decode cX3_isAhead 66 = .ok (.iconst 1, 1) := by decide +kernel
theorem dX3_isAhead_67 : decode cX3_isAhead 67 = .ok (.goto 4, 3) := by decide +kernel
theorem dX3_isAhead_70 : decode cX3_isAhead 70 = .ok (.iconst 0, 1) := by decide +kernel
theorem dX3_isAhead_71 : decode cX3_isAhead 71 = .ok (.ireturn, 1) := by decide +kernel
theorem dX3_isAhead_72 : decode cX3_isAhead 72 = .ok (.iload_n 1, 1) := by decide +kernel
theorem dX3_isAhead_73 : decode cX3_isAhead 73 = .ok (.iload_n 2, 1) := by decide +kernel
theorem dX3_isAhead_74 : decode cX3_isAhead 74 = .ok (.if_icmp .ge 7, 3) := by decide +kernel
theorem dX3_isAhead_77 : decode cX3_isAhead 77 = .ok (.iconst 1, 1) := by decide +kernel
theorem dX3_isAhead_78 : decode cX3_isAhead 78 = .ok (.goto 4, 3) := by decide +kernel
theorem dX3_isAhead_81 : decode cX3_isAhead 81 = .ok (.iconst 0, 1) := by decide +kernel
theorem dX3_isAhead_82 : decode cX3_isAhead 82 = .ok (.ireturn, 1) := by decide +kernel
theorem dX3_turnedDownLike_0 : decode cX3_turnedDownLike 0 = .ok (.bipush (-9), 2) := by decide +kernel
theorem dX3_turnedDownLike_2 : decode cX3_turnedDownLike 2 = .ok (.istore 4, 2) := by decide +kernel
theorem dX3_turnedDownLike_4 : decode cX3_turnedDownLike 4 = .ok (.iload_n 3, 1) := by decide +kernel
theorem dX3_turnedDownLike_5 : decode cX3_turnedDownLike 5 = .ok (.istore 5, 2) := by decide +kernel
theorem dX3_turnedDownLike_7 : decode cX3_turnedDownLike 7 = .ok (.iconst 0, 1) := by decide +kernel
theorem dX3_turnedDownLike_8 : decode cX3_turnedDownLike 8 = .ok (.istore 6, 2) := by decide +kernel
theorem dX3_turnedDownLike_10 : decode cX3_turnedDownLike 10 = .ok (.iload 6, 2) := by decide +kernel
theorem dX3_turnedDownLike_12 : decode cX3_turnedDownLike 12 = .ok (.aload_n 0, 1) := by decide +kernel
theorem dX3_turnedDownLike_13 : decode cX3_turnedDownLike 13 = .ok (.getfield 43, 3) := by decide +kernel
theorem dX3_turnedDownLike_16 : decode cX3_turnedDownLike 16 = .ok (.if_icmp .ge 87, 3) := by decide +kernel
theorem dX3_turnedDownLike_19 : decode cX3_turnedDownLike 19 = .ok (.aload_n 0, 1) := by decide +kernel
theorem dX3_turnedDownLike_20 : decode cX3_turnedDownLike 20 = .ok (.getfield 27, 3) := by decide +kernel
theorem dX3_turnedDownLike_23 : decode cX3_turnedDownLike 23 = .ok (.iload 6, 2) := by decide +kernel
theorem dX3_turnedDownLike_25 : decode cX3_turnedDownLike 25 = .ok (.iaload, 1) := by decide +kernel
theorem dX3_turnedDownLike_26 : decode cX3_turnedDownLike 26 = .ok (.iconst 2, 1) := by decide +kernel
theorem dX3_turnedDownLike_27 : decode cX3_turnedDownLike 27 = .ok (.if_icmp .ne 70, 3) := by decide +kernel
theorem dX3_turnedDownLike_30 : decode cX3_turnedDownLike 30 = .ok (.aload_n 0, 1) := by decide +kernel
theorem dX3_turnedDownLike_31 : decode cX3_turnedDownLike 31 = .ok (.getfield 15, 3) := by decide +kernel
theorem dX3_turnedDownLike_34 : decode cX3_turnedDownLike 34 = .ok (.iload 6, 2) := by decide +kernel
theorem dX3_turnedDownLike_36 : decode cX3_turnedDownLike 36 = .ok (.iaload, 1) := by decide +kernel
theorem dX3_turnedDownLike_37 : decode cX3_turnedDownLike 37 = .ok (.iload_n 1, 1) := by decide +kernel
theorem dX3_turnedDownLike_38 : decode cX3_turnedDownLike 38 = .ok (.if_icmp .eq 6, 3) := by decide +kernel
theorem dX3_turnedDownLike_41 : decode cX3_turnedDownLike 41 = .ok (.goto 56, 3) := by decide +kernel
theorem dX3_turnedDownLike_44 : decode cX3_turnedDownLike 44 = .ok (.aload_n 0, 1) := by decide +kernel
theorem dX3_turnedDownLike_45 : decode cX3_turnedDownLike 45 = .ok (.getfield 18, 3) := by decide +kernel
theorem dX3_turnedDownLike_48 : decode cX3_turnedDownLike 48 = .ok (.iload 6, 2) := by decide +kernel
theorem dX3_turnedDownLike_50 : decode cX3_turnedDownLike 50 = .ok (.iaload, 1) := by decide +kernel
theorem dX3_turnedDownLike_51 : decode cX3_turnedDownLike 51 = .ok (.iload_n 2, 1) := by decide +kernel
theorem dX3_turnedDownLike_52 : decode cX3_turnedDownLike 52 = .ok (.invokestatic 53, 3) := by decide +kernel
theorem dX3_turnedDownLike_55 : decode cX3_turnedDownLike 55 = .ok (.istore 7, 2) := by decide +kernel
theorem dX3_turnedDownLike_57 : decode cX3_turnedDownLike 57 = .ok (.iload 7, 2) := by decide +kernel
theorem dX3_turnedDownLike_59 : decode cX3_turnedDownLike 59 = .ok (.iload 5, 2) := by decide +kernel
theorem dX3_turnedDownLike_61 : decode cX3_turnedDownLike 61 = .ok (.if_icmp .gt 28, 3) := by decide +kernel
theorem dX3_turnedDownLike_64 : decode cX3_turnedDownLike 64 = .ok (.iload 7, 2) := by decide +kernel
theorem dX3_turnedDownLike_66 : decode cX3_turnedDownLike 66 = .ok (.iload 5, 2) := by decide +kernel
theorem dX3_turnedDownLike_68 : decode cX3_turnedDownLike 68 = .ok (.if_icmp .ne 29, 3) := by decide +kernel
theorem dX3_turnedDownLike_71 : decode cX3_turnedDownLike 71 = .ok (.iload 4, 2) := by decide +kernel
theorem dX3_turnedDownLike_73 : decode cX3_turnedDownLike 73 = .ok (.bipush (-9), 2) := by decide +kernel
theorem dX3_turnedDownLike_75 : decode cX3_turnedDownLike 75 = .ok (.if_icmp .eq 14, 3) := by decide +kernel
theorem dX3_turnedDownLike_78 : decode cX3_turnedDownLike 78 = .ok (.aload_n 0, 1) := by decide +kernel
theorem dX3_turnedDownLike_79 : decode cX3_turnedDownLike 79 = .ok (.iload 6, 2) := by decide +kernel
theorem dX3_turnedDownLike_81 : decode cX3_turnedDownLike 81 = .ok (.iload 4, 2) := by decide +kernel
theorem dX3_turnedDownLike_83 : decode cX3_turnedDownLike 83 = .ok (.invokevirtual 57, 3) := by decide +kernel
theorem dX3_turnedDownLike_86 : decode cX3_turnedDownLike 86 = .ok (.ifCond .eq 11, 3) := by decide +kernel
theorem dX3_turnedDownLike_89 : decode cX3_turnedDownLike 89 = .ok (.iload 6, 2) := by decide +kernel
theorem dX3_turnedDownLike_91 : decode cX3_turnedDownLike 91 = .ok (.istore 4, 2) := by decide +kernel
theorem dX3_turnedDownLike_93 : decode cX3_turnedDownLike 93 = .ok (.iload 7, 2) := by decide +kernel
theorem dX3_turnedDownLike_95 : decode cX3_turnedDownLike 95 = .ok (.istore 5, 2) := by decide +kernel
theorem dX3_turnedDownLike_97 : decode cX3_turnedDownLike 97 = .ok (.iinc 6 1, 3) := by decide +kernel
theorem dX3_turnedDownLike_100 : decode cX3_turnedDownLike 100 = .ok (.goto (-90), 3) := by decide +kernel
theorem dX3_turnedDownLike_103 : decode cX3_turnedDownLike 103 = .ok (.iload 4, 2) := by decide +kernel
theorem dX3_turnedDownLike_105 : decode cX3_turnedDownLike 105 = .ok (.ireturn, 1) := by decide +kernel
theorem dX3_howMany_0 : decode cX3_howMany 0 = .ok (.iconst 0, 1) := by decide +kernel
theorem dX3_howMany_1 : decode cX3_howMany 1 = .ok (.istore_n 2, 1) := by decide +kernel
theorem dX3_howMany_2 : decode cX3_howMany 2 = .ok (.iconst 0, 1) := by decide +kernel
theorem dX3_howMany_3 : decode cX3_howMany 3 = .ok (.istore_n 3, 1) := by decide +kernel
theorem dX3_howMany_4 : decode cX3_howMany 4 = .ok (.iload_n 3, 1) := by decide +kernel
theorem dX3_howMany_5 : decode cX3_howMany 5 = .ok (.aload_n 0, 1) := by decide +kernel
theorem dX3_howMany_6 : decode cX3_howMany 6 = .ok (.getfield 43, 3) := by decide +kernel
theorem dX3_howMany_9 : decode cX3_howMany 9 = .ok (.if_icmp .ge 22, 3) := by decide +kernel
theorem dX3_howMany_12 : decode cX3_howMany 12 = .ok (.aload_n 0, 1) := by decide +kernel
theorem dX3_howMany_13 : decode cX3_howMany 13 = .ok (.getfield 27, 3) := by decide +kernel
theorem dX3_howMany_16 : decode cX3_howMany 16 = .ok (.iload_n 3, 1) := by decide +kernel
theorem dX3_howMany_17 : decode cX3_howMany 17 = .ok (.iaload, 1) := by decide +kernel
theorem dX3_howMany_18 : decode cX3_howMany 18 = .ok (.iload_n 1, 1) := by decide +kernel
theorem dX3_howMany_19 : decode cX3_howMany 19 = .ok (.if_icmp .ne 6, 3) := by decide +kernel
theorem dX3_howMany_22 : decode cX3_howMany 22 = .ok (.iinc 2 1, 3) := by decide +kernel
theorem dX3_howMany_25 : decode cX3_howMany 25 = .ok (.iinc 3 1, 3) := by decide +kernel
theorem dX3_howMany_28 : decode cX3_howMany 28 = .ok (.goto (-24), 3) := by decide +kernel
theorem dX3_howMany_31 : decode cX3_howMany 31 = .ok (.iload_n 2, 1) := by decide +kernel
theorem dX3_howMany_32 : decode cX3_howMany 32 = .ok (.ireturn, 1) := by decide +kernel
theorem dX4_init_0 : decode cX4_init 0 = .ok (.aload_n 0, 1) := by decide +kernel
theorem dX4_init_1 : decode cX4_init 1 = .ok (.invokespecial 1, 3) := by decide +kernel
theorem dX4_init_4 : decode cX4_init 4 = .ok (.aload_n 0, 1) := by decide +kernel
theorem dX4_init_5 : decode cX4_init 5 = .ok (.sipush 200, 3) := by decide +kernel
theorem dX4_init_8 : decode cX4_init 8 = .ok (.newarray .int, 2) := by decide +kernel
theorem dX4_init_10 : decode cX4_init 10 = .ok (.putfield 9, 3) := by decide +kernel
theorem dX4_init_13 : decode cX4_init 13 = .ok (.aload_n 0, 1) := by decide +kernel
theorem dX4_init_14 : decode cX4_init 14 = .ok (.sipush 200, 3) := by decide +kernel
theorem dX4_init_17 : decode cX4_init 17 = .ok (.newarray .int, 2) := by decide +kernel
theorem dX4_init_19 : decode cX4_init 19 = .ok (.putfield 13, 3) := by decide +kernel
theorem dX4_init_22 : decode cX4_init 22 = .ok (.aload_n 0, 1) := by decide +kernel
theorem dX4_init_23 : decode cX4_init 23 = .ok (.sipush 200, 3) := by decide +kernel
theorem dX4_init_26 : decode cX4_init 26 = .ok (.newarray .boolean, 2) := by decide +kernel
theorem dX4_init_28 : decode cX4_init 28 = .ok (.putfield 16, 3) := by decide +kernel
theorem dX4_init_31 : decode cX4_init 31 = .ok (.aload_n 0, 1) := by decide +kernel
theorem dX4_init_32 : decode cX4_init 32 = .ok (.sipush 200, 3) := by decide +kernel
theorem dX4_init_35 : decode cX4_init 35 = .ok (.newarray .int, 2) := by decide +kernel
theorem dX4_init_37 : decode cX4_init 37 = .ok (.putfield 20, 3) := by decide +kernel
theorem dX4_init_40 : decode cX4_init 40 = .ok (.aload_n 0, 1) := by decide +kernel
theorem dX4_init_41 : decode cX4_init 41 = .ok (.iconst 0, 1) := by decide +kernel
theorem dX4_init_42 : decode cX4_init 42 = .ok (.putfield 23, 3) := by decide +kernel
theorem dX4_init_45 : decode cX4_init 45 = .ok (.return_, 1) := by decide +kernel
theorem dX4_add_0 : decode cX4_add 0 = .ok (.aload_n 0, 1) := by decide +kernel
theorem dX4_add_1 : decode cX4_add 1 = .ok (.getfield 9, 3) := by decide +kernel
theorem dX4_add_4 : decode cX4_add 4 = .ok (.aload_n 0, 1) := by decide +kernel
theorem dX4_add_5 : decode cX4_add 5 = .ok (.getfield 23, 3) := by decide +kernel
theorem dX4_add_8 : decode cX4_add 8 = .ok (.iload_n 1, 1) := by decide +kernel
theorem dX4_add_9 : decode cX4_add 9 = .ok (.iastore, 1) := by decide +kernel
theorem dX4_add_10 : decode cX4_add 10 = .ok (.aload_n 0, 1) := by decide +kernel
theorem dX4_add_11 : decode cX4_add 11 = .ok (.getfield 13, 3) := by decide +kernel
theorem dX4_add_14 : decode cX4_add 14 = .ok (.aload_n 0, 1) := by decide +kernel
theorem dX4_add_15 : decode cX4_add 15 = .ok (.getfield 23, 3) := by decide +kernel
theorem dX4_add_18 : decode cX4_add 18 = .ok (.iload_n 2, 1) := by decide +kernel
theorem dX4_add_19 : decode cX4_add 19 = .ok (.iastore, 1) := by decide +kernel
theorem dX4_add_20 : decode cX4_add 20 = .ok (.aload_n 0, 1) := by decide +kernel
theorem dX4_add_21 : decode cX4_add 21 = .ok (.getfield 16, 3) := by decide +kernel
theorem dX4_add_24 : decode cX4_add 24 = .ok (.aload_n 0, 1) := by decide +kernel
theorem dX4_add_25 : decode cX4_add 25 = .ok (.getfield 23, 3) := by decide +kernel
theorem dX4_add_28 : decode cX4_add 28 = .ok (.iload_n 3, 1) := by decide +kernel
theorem dX4_add_29 : decode cX4_add 29 = .ok (.bastore, 1) := by decide +kernel
theorem dX4_add_30 : decode cX4_add 30 = .ok (.aload_n 0, 1) := by decide +kernel
theorem dX4_add_31 : decode cX4_add 31 = .ok (.getfield 20, 3) := by decide +kernel
theorem dX4_add_34 : decode cX4_add 34 = .ok (.aload_n 0, 1) := by decide +kernel
theorem dX4_add_35 : decode cX4_add 35 = .ok (.getfield 23, 3) := by decide +kernel
theorem dX4_add_38 : decode cX4_add 38 = .ok (.iload 4, 2) := by decide +kernel
theorem dX4_add_40 : decode cX4_add 40 = .ok (.iastore, 1) := by decide +kernel
theorem dX4_add_41 : decode cX4_add 41 = .ok (.aload_n 0, 1) := by decide +kernel
theorem dX4_add_42 : decode cX4_add 42 = .ok (.dup, 1) := by decide +kernel
theorem dX4_add_43 : decode cX4_add 43 = .ok (.getfield 23, 3) := by decide +kernel
theorem dX4_add_46 : decode cX4_add 46 = .ok (.iconst 1, 1) := by decide +kernel
theorem dX4_add_47 : decode cX4_add 47 = .ok (.iadd, 1) := by decide +kernel
theorem dX4_add_48 : decode cX4_add 48 = .ok (.putfield 23, 3) := by decide +kernel
theorem dX4_add_51 : decode cX4_add 51 = .ok (.return_, 1) := by decide +kernel
theorem dX5_init_0 : decode cX5_init 0 = .ok (.aload_n 0, 1) := by decide +kernel
theorem dX5_init_1 : decode cX5_init 1 = .ok (.invokespecial 3, 3) := by decide +kernel
theorem dX5_init_4 : decode cX5_init 4 = .ok (.aload_n 0, 1) := by decide +kernel
theorem dX5_init_5 : decode cX5_init 5 = .ok (.bipush 20, 2) := by decide +kernel
theorem dX5_init_7 : decode cX5_init 7 = .ok (.newarray .int, 2) := by decide +kernel
theorem dX5_init_9 : decode cX5_init 9 = .ok (.putfield 11, 3) := by decide +kernel
theorem dX5_init_12 : decode cX5_init 12 = .ok (.aload_n 0, 1) := by decide +kernel
theorem dX5_init_13 : decode cX5_init 13 = .ok (.bipush 20, 2) := by decide +kernel
theorem dX5_init_15 : decode cX5_init 15 = .ok (.newarray .int, 2) := by decide +kernel
theorem dX5_init_17 : decode cX5_init 17 = .ok (.putfield 15, 3) := by decide +kernel
theorem dX5_init_20 : decode cX5_init 20 = .ok (.aload_n 0, 1) := by decide +kernel
theorem dX5_init_21 : decode cX5_init 21 = .ok (.bipush 20, 2) := by decide +kernel
theorem dX5_init_23 : decode cX5_init 23 = .ok (.newarray .int, 2) := by decide +kernel
theorem dX5_init_25 : decode cX5_init 25 = .ok (.putfield 18, 3) := by decide +kernel
theorem dX5_init_28 : decode cX5_init 28 = .ok (.aload_n 0, 1) := by decide +kernel
theorem dX5_init_29 : decode cX5_init 29 = .ok (.bipush 20, 2) := by decide +kernel
theorem dX5_init_31 : decode cX5_init 31 = .ok (.newarray .int, 2) := by decide +kernel
theorem dX5_init_33 : decode cX5_init 33 = .ok (.putfield 21, 3) := by decide +kernel
theorem dX5_init_36 : decode cX5_init 36 = .ok (.aload_n 0, 1) := by decide +kernel
theorem dX5_init_37 : decode cX5_init 37 = .ok (.iconst 0, 1) := by decide +kernel
theorem dX5_init_38 : decode cX5_init 38 = .ok (.putfield 24, 3) := by decide +kernel
theorem dX5_init_41 : decode cX5_init 41 = .ok (.return_, 1) := by decide +kernel
theorem dX5_add_0 : decode cX5_add 0 = .ok (.aload_n 0, 1) := by decide +kernel
theorem dX5_add_1 : decode cX5_add 1 = .ok (.getfield 11, 3) := by decide +kernel
theorem dX5_add_4 : decode cX5_add 4 = .ok (.aload_n 0, 1) := by decide +kernel
theorem dX5_add_5 : decode cX5_add 5 = .ok (.getfield 24, 3) := by decide +kernel
theorem dX5_add_8 : decode cX5_add 8 = .ok (.iload_n 1, 1) := by decide +kernel
theorem dX5_add_9 : decode cX5_add 9 = .ok (.iastore, 1) := by decide +kernel
theorem dX5_add_10 : decode cX5_add 10 = .ok (.aload_n 0, 1) := by decide +kernel
theorem dX5_add_11 : decode cX5_add 11 = .ok (.getfield 15, 3) := by decide +kernel
theorem dX5_add_14 : decode cX5_add 14 = .ok (.aload_n 0, 1) := by decide +kernel
theorem dX5_add_15 : decode cX5_add 15 = .ok (.getfield 24, 3) := by decide +kernel
theorem dX5_add_18 : decode cX5_add 18 = .ok (.iload_n 2, 1) := by decide +kernel
theorem dX5_add_19 : decode cX5_add 19 = .ok (.iastore, 1) := by decide +kernel
theorem dX5_add_20 : decode cX5_add 20 = .ok (.aload_n 0, 1) := by decide +kernel
theorem dX5_add_21 : decode cX5_add 21 = .ok (.getfield 18, 3) := by decide +kernel
theorem dX5_add_24 : decode cX5_add 24 = .ok (.aload_n 0, 1) := by decide +kernel
theorem dX5_add_25 : decode cX5_add 25 = .ok (.getfield 24, 3) := by decide +kernel
theorem dX5_add_28 : decode cX5_add 28 = .ok (.iload_n 3, 1) := by decide +kernel
theorem dX5_add_29 : decode cX5_add 29 = .ok (.iastore, 1) := by decide +kernel
theorem dX5_add_30 : decode cX5_add 30 = .ok (.aload_n 0, 1) := by decide +kernel
theorem dX5_add_31 : decode cX5_add 31 = .ok (.getfield 21, 3) := by decide +kernel
theorem dX5_add_34 : decode cX5_add 34 = .ok (.aload_n 0, 1) := by decide +kernel
theorem dX5_add_35 : decode cX5_add 35 = .ok (.getfield 24, 3) := by decide +kernel
theorem dX5_add_38 : decode cX5_add 38 = .ok (.iload 4, 2) := by decide +kernel
theorem dX5_add_40 : decode cX5_add 40 = .ok (.iastore, 1) := by decide +kernel
theorem dX5_add_41 : decode cX5_add 41 = .ok (.aload_n 0, 1) := by decide +kernel
theorem dX5_add_42 : decode cX5_add 42 = .ok (.dup, 1) := by decide +kernel
theorem dX5_add_43 : decode cX5_add 43 = .ok (.getfield 24, 3) := by decide +kernel
theorem dX5_add_46 : decode cX5_add 46 = .ok (.iconst 1, 1) := by decide +kernel
theorem dX5_add_47 : decode cX5_add 47 = .ok (.iadd, 1) := by decide +kernel
theorem dX5_add_48 : decode cX5_add 48 = .ok (.putfield 24, 3) := by decide +kernel
theorem dX5_add_51 : decode cX5_add 51 = .ok (.aload_n 0, 1) := by decide +kernel
theorem dX5_add_52 : decode cX5_add 52 = .ok (.getfield 24, 3) := by decide +kernel
theorem dX5_add_55 : decode cX5_add 55 = .ok (.iconst 1, 1) := by decide +kernel
theorem dX5_add_56 : decode cX5_add 56 = .ok (.isub, 1) := by decide +kernel
theorem dX5_add_57 : decode cX5_add 57 = .ok (.ireturn, 1) := by decide +kernel
theorem dX5_inForceOn_0 : decode cX5_inForceOn 0 = .ok (.bipush (-9), 2) := by decide +kernel
theorem dX5_inForceOn_2 : decode cX5_inForceOn 2 = .ok (.istore_n 2, 1) := by decide +kernel
theorem dX5_inForceOn_3 : decode cX5_inForceOn 3 = .ok (.iconst 0, 1) := by decide +kernel
theorem dX5_inForceOn_4 : decode cX5_inForceOn 4 = .ok (.istore_n 3, 1) := by decide +kernel
theorem dX5_inForceOn_5 : decode cX5_inForceOn 5 = .ok (.iload_n 3, 1) := by decide +kernel
theorem dX5_inForceOn_6 : decode cX5_inForceOn 6 = .ok (.aload_n 0, 1) := by decide +kernel
theorem dX5_inForceOn_7 : decode cX5_inForceOn 7 = .ok (.getfield 24, 3) := by decide +kernel
theorem dX5_inForceOn_10 : decode cX5_inForceOn 10 = .ok (.if_icmp .ge 42, 3) := by decide +kernel
theorem dX5_inForceOn_13 : decode cX5_inForceOn 13 = .ok (.aload_n 0, 1) := by decide +kernel
theorem dX5_inForceOn_14 : decode cX5_inForceOn 14 = .ok (.getfield 11, 3) := by decide +kernel
theorem dX5_inForceOn_17 : decode cX5_inForceOn 17 = .ok (.iload_n 3, 1) := by decide +kernel
theorem dX5_inForceOn_18 : decode cX5_inForceOn 18 = .ok (.iaload, 1) := by decide +kernel
theorem dX5_inForceOn_19 : decode cX5_inForceOn 19 = .ok (.iload_n 1, 1) := by decide +kernel
theorem dX5_inForceOn_20 : decode cX5_inForceOn 20 = .ok (.if_icmp .gt 26, 3) := by decide +kernel
theorem dX5_inForceOn_23 : decode cX5_inForceOn 23 = .ok (.iload_n 2, 1) := by decide +kernel
theorem dX5_inForceOn_24 : decode cX5_inForceOn 24 = .ok (.bipush (-9), 2) := by decide +kernel
theorem dX5_inForceOn_26 : decode cX5_inForceOn 26 = .ok (.if_icmp .eq 18, 3) := by decide +kernel
theorem dX5_inForceOn_29 : decode cX5_inForceOn 29 = .ok (.aload_n 0, 1) := by decide +kernel
theorem dX5_inForceOn_30 : decode cX5_inForceOn 30 = .ok (.getfield 11, 3) := by decide +kernel
theorem dX5_inForceOn_33 : decode cX5_inForceOn 33 = .ok (.iload_n 3, 1) := by decide +kernel
theorem dX5_inForceOn_34 : decode cX5_inForceOn 34 = .ok (.iaload, 1) := by decide +kernel
theorem dX5_inForceOn_35 : decode cX5_inForceOn 35 = .ok (.aload_n 0, 1) := by decide +kernel
theorem dX5_inForceOn_36 : decode cX5_inForceOn 36 = .ok (.getfield 11, 3) := by decide +kernel
theorem dX5_inForceOn_39 : decode cX5_inForceOn 39 = .ok (.iload_n 2, 1) := by decide +kernel
theorem dX5_inForceOn_40 : decode cX5_inForceOn 40 = .ok (.iaload, 1) := by decide +kernel
theorem dX5_inForceOn_41 : decode cX5_inForceOn 41 = .ok (.if_icmp .lt 5, 3) := by decide +kernel
theorem dX5_inForceOn_44 : decode cX5_inForceOn 44 = .ok (.iload_n 3, 1) := by decide +kernel
theorem dX5_inForceOn_45 : decode cX5_inForceOn 45 = .ok (.istore_n 2, 1) := by decide +kernel
theorem dX5_inForceOn_46 : decode cX5_inForceOn 46 = .ok (.iinc 3 1, 3) := by decide +kernel
theorem dX5_inForceOn_49 : decode cX5_inForceOn 49 = .ok (.goto (-44), 3) := by decide +kernel
theorem dX5_inForceOn_52 : decode cX5_inForceOn 52 = .ok (.iload_n 2, 1) := by decide +kernel
theorem dX5_inForceOn_53 : decode cX5_inForceOn 53 = .ok (.ireturn, 1) := by decide +kernel
theorem dX6_init_0 : decode cX6_init 0 = .ok (.aload_n 0, 1) := by decide +kernel
theorem dX6_init_1 : decode cX6_init 1 = .ok (.invokespecial 3, 3) := by decide +kernel
theorem dX6_init_4 : decode cX6_init 4 = .ok (.aload_n 0, 1) := by decide +kernel
theorem dX6_init_5 : decode cX6_init 5 = .ok (.bipush 10, 2) := by decide +kernel
theorem dX6_init_7 : decode cX6_init 7 = .ok (.newarray .int, 2) := by decide +kernel
theorem dX6_init_9 : decode cX6_init 9 = .ok (.putfield 11, 3) := by decide +kernel
theorem dX6_init_12 : decode cX6_init 12 = .ok (.aload_n 0, 1) := by decide +kernel
theorem dX6_init_13 : decode cX6_init 13 = .ok (.bipush 10, 2) := by decide +kernel
theorem dX6_init_15 : decode cX6_init 15 = .ok (.newarray .int, 2) := by decide +kernel
theorem dX6_init_17 : decode cX6_init 17 = .ok (.putfield 17, 3) := by decide +kernel
theorem dX6_init_20 : decode cX6_init 20 = .ok (.aload_n 0, 1) := by decide +kernel
theorem dX6_init_21 : decode cX6_init 21 = .ok (.bipush 10, 2) := by decide +kernel
theorem dX6_init_23 : decode cX6_init 23 = .ok (.newarray .int, 2) := by decide +kernel
theorem dX6_init_25 : decode cX6_init 25 = .ok (.putfield 20, 3) := by decide +kernel
theorem dX6_init_28 : decode cX6_init 28 = .ok (.aload_n 0, 1) := by decide +kernel
theorem dX6_init_29 : decode cX6_init 29 = .ok (.bipush 10, 2) := by decide +kernel
theorem dX6_init_31 : decode cX6_init 31 = .ok (.newarray .int, 2) := by decide +kernel
theorem dX6_init_33 : decode cX6_init 33 = .ok (.putfield 23, 3) := by decide +kernel
theorem dX6_init_36 : decode cX6_init 36 = .ok (.aload_n 0, 1) := by decide +kernel
theorem dX6_init_37 : decode cX6_init 37 = .ok (.bipush 10, 2) := by decide +kernel
theorem dX6_init_39 : decode cX6_init 39 = .ok (.newarray .int, 2) := by decide +kernel
theorem dX6_init_41 : decode cX6_init 41 = .ok (.putfield 26, 3) := by decide +kernel
theorem dX6_init_44 : decode cX6_init 44 = .ok (.aload_n 0, 1) := by decide +kernel
theorem dX6_init_45 : decode cX6_init 45 = .ok (.bipush 10, 2) := by decide +kernel
theorem dX6_init_47 : decode cX6_init 47 = .ok (.newarray .int, 2) := by decide +kernel
theorem dX6_init_49 : decode cX6_init 49 = .ok (.putfield 29, 3) := by decide +kernel
theorem dX6_init_52 : decode cX6_init 52 = .ok (.return_, 1) := by decide +kernel
theorem dX6_gather_0 : decode cX6_gather 0 = .ok (.aload_n 0, 1) := by decide +kernel
theorem dX6_gather_1 : decode cX6_gather 1 = .ok (.invokevirtual 32, 3) := by decide +kernel
theorem dX6_gather_4 : decode cX6_gather 4 = .ok (.iconst 0, 1) := by decide +kernel
theorem dX6_gather_5 : decode cX6_gather 5 = .ok (.istore 4, 2) := by decide +kernel
theorem dX6_gather_7 : decode cX6_gather 7 = .ok (.iload 4, 2) := by decide +kernel
theorem dX6_gather_9 : decode cX6_gather 9 = .ok (.aload_n 1, 1) := by decide +kernel
theorem dX6_gather_10 : decode cX6_gather 10 = .ok (.getfield 35, 3) := by decide +kernel
theorem dX6_gather_13 : decode cX6_gather 13 = .ok (.if_icmp .ge 77, 3) := by decide +kernel
theorem dX6_gather_16 : decode cX6_gather 16 = .ok (.aload_n 2, 1) := by decide +kernel
theorem dX6_gather_17 : decode cX6_gather 17 = .ok (.getfield 41, 3) := by decide +kernel
theorem dX6_gather_20 : decode cX6_gather 20 = .ok (.aload_n 1, 1) := by decide +kernel
theorem dX6_gather_21 : decode cX6_gather 21 = .ok (.getfield 46, 3) := by decide +kernel
theorem dX6_gather_24 : decode cX6_gather 24 = .ok (.iload 4, 2) := by decide +kernel
theorem dX6_gather_26 : decode cX6_gather 26 = .ok (.iaload, 1) := by decide +kernel
theorem dX6_gather_27 : decode cX6_gather 27 = .ok (.iaload, 1) := by decide +kernel
theorem dX6_gather_28 : decode cX6_gather 28 = .ok (.iload_n 3, 1) := by decide +kernel
theorem dX6_gather_29 : decode cX6_gather 29 = .ok (.if_icmp .eq 6, 3) := by decide +kernel
theorem dX6_gather_32 : decode cX6_gather 32 = .ok (.goto 52, 3) := by decide +kernel
theorem dX6_gather_35 : decode cX6_gather 35 = .ok (.aload_n 1, 1) := by decide +kernel
theorem dX6_gather_36 : decode cX6_gather 36 = .ok (.getfield 49, 3) := by decide +kernel
theorem dX6_gather_39 : decode cX6_gather 39 = .ok (.iload 4, 2) := by decide +kernel
theorem dX6_gather_41 : decode cX6_gather 41 = .ok (.baload, 1) := by decide +kernel
theorem dX6_gather_42 : decode cX6_gather 42 = .ok (.ifCond .eq 24, 3) := by decide +kernel
theorem dX6_gather_45 : decode cX6_gather 45 = .ok (.aload_n 0, 1) := by decide +kernel
theorem dX6_gather_46 : decode cX6_gather 46 = .ok (.aload_n 1, 1) := by decide +kernel
theorem dX6_gather_47 : decode cX6_gather 47 = .ok (.getfield 53, 3) := by decide +kernel
theorem dX6_gather_50 : decode cX6_gather 50 = .ok (.iload 4, 2) := by decide +kernel
theorem dX6_gather_52 : decode cX6_gather 52 = .ok (.iaload, 1) := by decide +kernel
theorem dX6_gather_53 : decode cX6_gather 53 = .ok (.aload_n 1, 1) := by decide +kernel
theorem dX6_gather_54 : decode cX6_gather 54 = .ok (.getfield 56, 3) := by decide +kernel
theorem dX6_gather_57 : decode cX6_gather 57 = .ok (.iload 4, 2) := by decide +kernel
theorem dX6_gather_59 : decode cX6_gather 59 = .ok (.iaload, 1) := by decide +kernel
theorem dX6_gather_60 : decode cX6_gather 60 = .ok (.invokevirtual 59, 3) := by decide +kernel
theorem dX6_gather_63 : decode cX6_gather 63 = .ok (.goto 21, 3) := by decide +kernel
theorem dX6_gather_66 : decode cX6_gather 66 = .ok (.aload_n 0, 1) := by decide +kernel
theorem dX6_gather_67 : decode cX6_gather 67 = .ok (.aload_n 1, 1) := by decide +kernel
theorem dX6_gather_68 : decode cX6_gather 68 = .ok (.getfield 53, 3) := by decide +kernel
theorem dX6_gather_71 : decode cX6_gather 71 = .ok (.iload 4, 2) := by decide +kernel
theorem dX6_gather_73 : decode cX6_gather 73 = .ok (.iaload, 1) := by decide +kernel
theorem dX6_gather_74 : decode cX6_gather 74 = .ok (.aload_n 1, 1) := by decide +kernel
theorem dX6_gather_75 : decode cX6_gather 75 = .ok (.getfield 56, 3) := by decide +kernel
theorem dX6_gather_78 : decode cX6_gather 78 = .ok (.iload 4, 2) := by decide +kernel
theorem dX6_gather_80 : decode cX6_gather 80 = .ok (.iaload, 1) := by decide +kernel
theorem dX6_gather_81 : decode cX6_gather 81 = .ok (.invokevirtual 63, 3) := by decide +kernel
theorem dX6_gather_84 : decode cX6_gather 84 = .ok (.iinc 4 1, 3) := by decide +kernel
theorem dX6_gather_87 : decode cX6_gather 87 = .ok (.goto (-80), 3) := by decide +kernel
theorem dX6_gather_90 : decode cX6_gather 90 = .ok (.return_, 1) := by decide +kernel
theorem dX6_clear_0 : decode cX6_clear 0 = .ok (.iconst 0, 1) := by decide +kernel
theorem dX6_clear_1 : decode cX6_clear 1 = .ok (.istore_n 1, 1) := by decide +kernel
theorem dX6_clear_2 : decode cX6_clear 2 = .ok (.iload_n 1, 1) := by decide +kernel
theorem dX6_clear_3 : decode cX6_clear 3 = .ok (.bipush 10, 2) := by decide +kernel
theorem dX6_clear_5 : decode cX6_clear 5 = .ok (.if_icmp .ge 53, 3) := by decide +kernel
theorem dX6_clear_8 : decode cX6_clear 8 = .ok (.aload_n 0, 1) := by decide +kernel
theorem dX6_clear_9 : decode cX6_clear 9 = .ok (.getfield 11, 3) := by decide +kernel
theorem dX6_clear_12 : decode cX6_clear 12 = .ok (.iload_n 1, 1) := by decide +kernel
theorem dX6_clear_13 : decode cX6_clear 13 = .ok (.sipush 9999, 3) := by decide +kernel
theorem dX6_clear_16 : decode cX6_clear 16 = .ok (.iastore, 1) := by decide +kernel
theorem dX6_clear_17 : decode cX6_clear 17 = .ok (.aload_n 0, 1) := by decide +kernel
theorem dX6_clear_18 : decode cX6_clear 18 = .ok (.getfield 17, 3) := by decide +kernel
theorem dX6_clear_21 : decode cX6_clear 21 = .ok (.iload_n 1, 1) := by decide +kernel
theorem dX6_clear_22 : decode cX6_clear 22 = .ok (.iconst 0, 1) := by decide +kernel
theorem dX6_clear_23 : decode cX6_clear 23 = .ok (.iastore, 1) := by decide +kernel
theorem dX6_clear_24 : decode cX6_clear 24 = .ok (.aload_n 0, 1) := by decide +kernel
theorem dX6_clear_25 : decode cX6_clear 25 = .ok (.getfield 20, 3) := by decide +kernel
theorem dX6_clear_28 : decode cX6_clear 28 = .ok (.iload_n 1, 1) := by decide +kernel
theorem dX6_clear_29 : decode cX6_clear 29 = .ok (.iconst 0, 1) := by decide +kernel
theorem dX6_clear_30 : decode cX6_clear 30 = .ok (.iastore, 1) := by decide +kernel
theorem dX6_clear_31 : decode cX6_clear 31 = .ok (.aload_n 0, 1) := by decide +kernel
theorem dX6_clear_32 : decode cX6_clear 32 = .ok (.getfield 23, 3) := by decide +kernel
theorem dX6_clear_35 : decode cX6_clear 35 = .ok (.iload_n 1, 1) := by decide +kernel
theorem dX6_clear_36 : decode cX6_clear 36 = .ok (.iconst 0, 1) := by decide +kernel
theorem dX6_clear_37 : decode cX6_clear 37 = .ok (.iastore, 1) := by decide +kernel
theorem dX6_clear_38 : decode cX6_clear 38 = .ok (.aload_n 0, 1) := by decide +kernel
theorem dX6_clear_39 : decode cX6_clear 39 = .ok (.getfield 26, 3) := by decide +kernel
theorem dX6_clear_42 : decode cX6_clear 42 = .ok (.iload_n 1, 1) := by decide +kernel
theorem dX6_clear_43 : decode cX6_clear 43 = .ok (.iconst 0, 1) := by decide +kernel
theorem dX6_clear_44 : decode cX6_clear 44 = .ok (.iastore, 1) := by decide +kernel
theorem dX6_clear_45 : decode cX6_clear 45 = .ok (.aload_n 0, 1) := by decide +kernel
theorem dX6_clear_46 : decode cX6_clear 46 = .ok (.getfield 29, 3) := by decide +kernel
theorem dX6_clear_49 : decode cX6_clear 49 = .ok (.iload_n 1, 1) := by decide +kernel
theorem dX6_clear_50 : decode cX6_clear 50 = .ok (.iconst 0, 1) := by decide +kernel
theorem dX6_clear_51 : decode cX6_clear 51 = .ok (.iastore, 1) := by decide +kernel
theorem dX6_clear_52 : decode cX6_clear 52 = .ok (.iinc 1 1, 3) := by decide +kernel
theorem dX6_clear_55 : decode cX6_clear 55 = .ok (.goto (-53), 3) := by decide +kernel
theorem dX6_clear_58 : decode cX6_clear 58 = .ok (.return_, 1) := by decide +kernel
theorem dX6_addBefore_0 : decode cX6_addBefore 0 = .ok (.aload_n 0, 1) := by decide +kernel
theorem dX6_addBefore_1 : decode cX6_addBefore 1 = .ok (.getfield 11, 3) := by decide +kernel
theorem dX6_addBefore_4 : decode cX6_addBefore 4 = .ok (.iload_n 1, 1) := by decide +kernel
theorem dX6_addBefore_5 : decode cX6_addBefore 5 = .ok (.aload_n 0, 1) := by decide +kernel
theorem dX6_addBefore_6 : decode cX6_addBefore 6 = .ok (.getfield 11, 3) := by decide +kernel
theorem dX6_addBefore_9 : decode cX6_addBefore 9 = .ok (.iload_n 1, 1) := by decide +kernel
theorem dX6_addBefore_10 : decode cX6_addBefore 10 = .ok (.iaload, 1) := by decide +kernel
theorem dX6_addBefore_11 : decode cX6_addBefore 11 = .ok (.iload_n 2, 1) := by decide +kernel
theorem dX6_addBefore_12 : decode cX6_addBefore 12 = .ok (.invokestatic 66, 3) := by decide +kernel
theorem dX6_addBefore_15 : decode cX6_addBefore 15 = .ok (.iastore, 1) := by decide +kernel
theorem dX6_addBefore_16 : decode cX6_addBefore 16 = .ok (.aload_n 0, 1) := by decide +kernel
theorem dX6_addBefore_17 : decode cX6_addBefore 17 = .ok (.getfield 17, 3) := by decide +kernel
theorem dX6_addBefore_20 : decode cX6_addBefore 20 = .ok (.iload_n 1, 1) := by decide +kernel
theorem dX6_addBefore_21 : decode cX6_addBefore 21 = .ok (.dup2, 1) := by decide +kernel
theorem dX6_addBefore_22 : decode cX6_addBefore 22 = .ok (.iaload, 1) := by decide +kernel
theorem dX6_addBefore_23 : decode cX6_addBefore 23 = .ok (.iload_n 2, 1) := by decide +kernel
theorem dX6_addBefore_24 : decode cX6_addBefore 24 = .ok (.iadd, 1) := by decide +kernel
theorem dX6_addBefore_25 : decode cX6_addBefore 25 = .ok (.iastore, 1) := by decide +kernel
theorem dX6_addBefore_26 : decode cX6_addBefore 26 = .ok (.aload_n 0, 1) := by decide +kernel
theorem dX6_addBefore_27 : decode cX6_addBefore 27 = .ok (.getfield 20, 3) := by decide +kernel
theorem dX6_addBefore_30 : decode cX6_addBefore 30 = .ok (.iload_n 1, 1) := by decide +kernel
theorem dX6_addBefore_31 : decode cX6_addBefore 31 = .ok (.dup2, 1) := by decide +kernel
theorem dX6_addBefore_32 : decode cX6_addBefore 32 = .ok (.iaload, 1) := by decide +kernel
theorem dX6_addBefore_33 : decode cX6_addBefore 33 = .ok (.iconst 1, 1) := by decide +kernel
theorem dX6_addBefore_34 : decode cX6_addBefore 34 = .ok (.iadd, 1) := by decide +kernel
theorem dX6_addBefore_35 : decode cX6_addBefore 35 = .ok (.iastore, 1) := by decide +kernel
theorem dX6_addBefore_36 : decode cX6_addBefore 36 = .ok (.return_, 1) := by decide +kernel
theorem dX6_addAfter_0 : decode cX6_addAfter 0 = .ok (.aload_n 0, 1) := by decide +kernel
theorem dX6_addAfter_1 : decode cX6_addAfter 1 = .ok (.getfield 23, 3) := by decide +kernel
theorem dX6_addAfter_4 : decode cX6_addAfter 4 = .ok (.iload_n 1, 1) := by decide +kernel
theorem dX6_addAfter_5 : decode cX6_addAfter 5 = .ok (.aload_n 0, 1) := by decide +kernel
theorem dX6_addAfter_6 : decode cX6_addAfter 6 = .ok (.getfield 23, 3) := by decide +kernel
theorem dX6_addAfter_9 : decode cX6_addAfter 9 = .ok (.iload_n 1, 1) := by decide +kernel
theorem dX6_addAfter_10 : decode cX6_addAfter 10 = .ok (.iaload, 1) := by decide +kernel
theorem dX6_addAfter_11 : decode cX6_addAfter 11 = .ok (.iload_n 2, 1) := by decide +kernel
theorem dX6_addAfter_12 : decode cX6_addAfter 12 = .ok (.invokestatic 72, 3) := by decide +kernel
theorem dX6_addAfter_15 : decode cX6_addAfter 15 = .ok (.iastore, 1) := by decide +kernel
theorem dX6_addAfter_16 : decode cX6_addAfter 16 = .ok (.aload_n 0, 1) := by decide +kernel
theorem dX6_addAfter_17 : decode cX6_addAfter 17 = .ok (.getfield 26, 3) := by decide +kernel
theorem dX6_addAfter_20 : decode cX6_addAfter 20 = .ok (.iload_n 1, 1) := by decide +kernel
theorem dX6_addAfter_21 : decode cX6_addAfter 21 = .ok (.dup2, 1) := by decide +kernel
theorem dX6_addAfter_22 : decode cX6_addAfter 22 = .ok (.iaload, 1) := by decide +kernel
theorem dX6_addAfter_23 : decode cX6_addAfter 23 = .ok (.iload_n 2, 1) := by decide +kernel
theorem dX6_addAfter_24 : decode cX6_addAfter 24 = .ok (.iadd, 1) := by decide +kernel
theorem dX6_addAfter_25 : decode cX6_addAfter 25 = .ok (.iastore, 1) := by decide +kernel
theorem dX6_addAfter_26 : decode cX6_addAfter 26 = .ok (.aload_n 0, 1) := by decide +kernel
theorem dX6_addAfter_27 : decode cX6_addAfter 27 = .ok (.getfield 29, 3) := by decide +kernel
theorem dX6_addAfter_30 : decode cX6_addAfter 30 = .ok (.iload_n 1, 1) := by decide +kernel
theorem dX6_addAfter_31 : decode cX6_addAfter 31 = .ok (.dup2, 1) := by decide +kernel
theorem dX6_addAfter_32 : decode cX6_addAfter 32 = .ok (.iaload, 1) := by decide +kernel
theorem dX6_addAfter_33 : decode cX6_addAfter 33 = .ok (.iconst 1, 1) := by decide +kernel
theorem dX6_addAfter_34 : decode cX6_addAfter 34 = .ok (.iadd, 1) := by decide +kernel
theorem dX6_addAfter_35 : decode cX6_addAfter 35 = .ok (.iastore, 1) := by decide +kernel
theorem dX6_addAfter_36 : decode cX6_addAfter 36 = .ok (.return_, 1) := by decide +kernel
theorem dX6_hasBoth_0 : decode cX6_hasBoth 0 = .ok (.aload_n 0, 1) := by decide +kernel
theorem dX6_hasBoth_1 : decode cX6_hasBoth 1 = .ok (.getfield 20, 3) := by decide +kernel
theorem dX6_hasBoth_4 : decode cX6_hasBoth 4 = .ok (.iload_n 1, 1) := by decide +kernel
theorem dX6_hasBoth_5 : decode cX6_hasBoth 5 = .ok (.iaload, 1) := by decide +kernel
theorem dX6_hasBoth_6 : decode cX6_hasBoth 6 = .ok (.ifCond .le 16, 3) := by decide +kernel
theorem dX6_hasBoth_9 : decode cX6_hasBoth 9 = .ok (.aload_n 0, 1) := by decide +kernel
theorem dX6_hasBoth_10 : decode cX6_hasBoth 10 = .ok (.getfield 29, 3) := by decide +kernel
theorem dX6_hasBoth_13 : decode cX6_hasBoth 13 = .ok (.iload_n 1, 1) := by decide +kernel
theorem dX6_hasBoth_14 : decode cX6_hasBoth 14 = .ok (.iaload, 1) := by decide +kernel
theorem dX6_hasBoth_15 : decode cX6_hasBoth 15 = .ok (.ifCond .le 7, 3) := by decide +kernel
theorem dX6_hasBoth_18 : decode cX6_hasBoth 18 = .ok (.iconst 1, 1) := by decide +kernel
theorem dX6_hasBoth_19 : decode cX6_hasBoth 19 = .ok (.goto 4, 3) := by decide +kernel
theorem dX6_hasBoth_22 : decode cX6_hasBoth 22 = .ok (.iconst 0, 1) := by decide +kernel
theorem dX6_hasBoth_23 : decode cX6_hasBoth 23 = .ok (.ireturn, 1) := by decide +kernel
theorem dX6_beyondDoubt_0 : decode cX6_beyondDoubt 0 = .ok (.aload_n 0, 1) := by decide +kernel
theorem dX6_beyondDoubt_1 : decode cX6_beyondDoubt 1 = .ok (.iload_n 1, 1) := by decide +kernel
theorem dX6_beyondDoubt_2 : decode cX6_beyondDoubt 2 = .ok (.invokevirtual 75, 3) := by decide +kernel
theorem dX6_beyondDoubt_5 : decode cX6_beyondDoubt 5 = .ok (.ifCond .eq 23, 3) := by decide +kernel
theorem dX6_beyondDoubt_8 : decode cX6_beyondDoubt 8 = .ok (.iconst 0, 1) := by decide +kernel
theorem dX6_beyondDoubt_9 : decode cX6_beyondDoubt 9 = .ok (.aload_n 0, 1) := by decide +kernel
theorem dX6_beyondDoubt_10 : decode cX6_beyondDoubt 10 = .ok (.getfield 11, 3) := by decide +kernel
theorem dX6_beyondDoubt_13 : decode cX6_beyondDoubt 13 = .ok (.iload_n 1, 1) := by decide +kernel
theorem dX6_beyondDoubt_14 : decode cX6_beyondDoubt 14 = .ok (.iaload, 1) := by decide +kernel
theorem dX6_beyondDoubt_15 : decode cX6_beyondDoubt 15 = .ok (.aload_n 0, 1) := by decide +kernel
theorem dX6_beyondDoubt_16 : decode cX6_beyondDoubt 16 = .ok (.getfield 23, 3) := by decide +kernel
theorem dX6_beyondDoubt_19 : decode cX6_beyondDoubt 19 = .ok (.iload_n 1, 1) := by decide +kernel
theorem dX6_beyondDoubt_20 : decode cX6_beyondDoubt 20 = .ok (.iaload, 1) := by decide +kernel
theorem dX6_beyondDoubt_21 : decode cX6_beyondDoubt 21 = .ok (.isub, 1) := by decide +kernel
theorem dX6_beyondDoubt_22 : decode cX6_beyondDoubt 22 = .ok (.invokestatic 72, 3) := by decide +kernel
theorem dX6_beyondDoubt_25 : decode cX6_beyondDoubt 25 = .ok (.goto 4, 3) := by decide +kernel
theorem dX6_beyondDoubt_28 : decode cX6_beyondDoubt 28 = .ok (.iconst 0, 1) := by decide +kernel
theorem dX6_beyondDoubt_29 : decode cX6_beyondDoubt 29 = .ok (.ireturn, 1) := by decide +kernel
theorem dX6_hoped_0 : decode cX6_hoped 0 = .ok (.aload_n 0, 1) := by decide +kernel
theorem dX6_hoped_1 : decode cX6_hoped 1 = .ok (.iload_n 1, 1) := by decide +kernel
theorem dX6_hoped_2 : decode cX6_hoped 2 = .ok (.invokevirtual 75, 3) := by decide +kernel
theorem dX6_hoped_5 : decode cX6_hoped 5 = .ok (.ifCond .ne 5, 3) := by decide +kernel
theorem dX6_hoped_8 : decode cX6_hoped 8 = .ok (.iconst 0, 1) := by decide +kernel
theorem dX6_hoped_9 : decode cX6_hoped 9 = .ok (.ireturn, 1) := by decide +kernel
theorem dX6_hoped_10 : decode cX6_hoped 10 = .ok (.iconst 0, 1) := by decide +kernel
theorem dX6_hoped_11 : decode cX6_hoped 11 = .ok (.aload_n 0, 1) := by decide +kernel
theorem dX6_hoped_12 : decode cX6_hoped 12 = .ok (.getfield 17, 3) := by decide +kernel
theorem dX6_hoped_15 : decode cX6_hoped 15 = .ok (.iload_n 1, 1) := by decide +kernel
theorem dX6_hoped_16 : decode cX6_hoped 16 = .ok (.iaload, 1) := by decide +kernel
theorem dX6_hoped_17 : decode cX6_hoped 17 = .ok (.aload_n 0, 1) := by decide +kernel
theorem dX6_hoped_18 : decode cX6_hoped 18 = .ok (.getfield 20, 3) := by decide +kernel
theorem dX6_hoped_21 : decode cX6_hoped 21 = .ok (.iload_n 1, 1) := by decide +kernel
theorem dX6_hoped_22 : decode cX6_hoped 22 = .ok (.iaload, 1) := by decide +kernel
theorem dX6_hoped_23 : decode cX6_hoped 23 = .ok (.idiv, 1) := by decide +kernel
theorem dX6_hoped_24 : decode cX6_hoped 24 = .ok (.aload_n 0, 1) := by decide +kernel
theorem dX6_hoped_25 : decode cX6_hoped 25 = .ok (.getfield 26, 3) := by decide +kernel
theorem dX6_hoped_28 : decode cX6_hoped 28 = .ok (.iload_n 1, 1) := by decide +kernel
theorem dX6_hoped_29 : decode cX6_hoped 29 = .ok (.iaload, 1) := by decide +kernel
theorem dX6_hoped_30 : decode cX6_hoped 30 = .ok (.aload_n 0, 1) := by decide +kernel
theorem dX6_hoped_31 : decode cX6_hoped 31 = .ok (.getfield 29, 3) := by decide +kernel
theorem dX6_hoped_34 : decode cX6_hoped 34 = .ok (.iload_n 1, 1) := by decide +kernel
theorem dX6_hoped_35 : decode cX6_hoped 35 = .ok (.iaload, 1) := by decide +kernel
theorem dX6_hoped_36 : decode cX6_hoped 36 = .ok (.idiv, 1) := by decide +kernel
theorem dX6_hoped_37 : decode cX6_hoped 37 = .ok (.isub, 1) := by decide +kernel
theorem dX6_hoped_38 : decode cX6_hoped 38 = .ok (.invokestatic 72, 3) := by decide +kernel
theorem dX6_hoped_41 : decode cX6_hoped 41 = .ok (.ireturn, 1) := by decide +kernel
theorem dX7_init_0 : decode cX7_init 0 = .ok (.aload_n 0, 1) := by decide +kernel
theorem dX7_init_1 : decode cX7_init 1 = .ok (.invokespecial 1, 3) := by decide +kernel
theorem dX7_init_4 : decode cX7_init 4 = .ok (.aload_n 0, 1) := by decide +kernel
theorem dX7_init_5 : decode cX7_init 5 = .ok (.bipush 20, 2) := by decide +kernel
theorem dX7_init_7 : decode cX7_init 7 = .ok (.newarray .int, 2) := by decide +kernel
theorem dX7_init_9 : decode cX7_init 9 = .ok (.putfield 9, 3) := by decide +kernel
theorem dX7_init_12 : decode cX7_init 12 = .ok (.aload_n 0, 1) := by decide +kernel
theorem dX7_init_13 : decode cX7_init 13 = .ok (.iconst 0, 1) := by decide +kernel
theorem dX7_init_14 : decode cX7_init 14 = .ok (.putfield 13, 3) := by decide +kernel
theorem dX7_init_17 : decode cX7_init 17 = .ok (.return_, 1) := by decide +kernel
theorem dX7_add_0 : decode cX7_add 0 = .ok (.aload_n 0, 1) := by decide +kernel
theorem dX7_add_1 : decode cX7_add 1 = .ok (.getfield 9, 3) := by decide +kernel
theorem dX7_add_4 : decode cX7_add 4 = .ok (.aload_n 0, 1) := by decide +kernel
theorem dX7_add_5 : decode cX7_add 5 = .ok (.getfield 13, 3) := by decide +kernel
theorem dX7_add_8 : decode cX7_add 8 = .ok (.iload_n 1, 1) := by decide +kernel
theorem dX7_add_9 : decode cX7_add 9 = .ok (.iastore, 1) := by decide +kernel
theorem dX7_add_10 : decode cX7_add 10 = .ok (.aload_n 0, 1) := by decide +kernel
theorem dX7_add_11 : decode cX7_add 11 = .ok (.dup, 1) := by decide +kernel
theorem dX7_add_12 : decode cX7_add 12 = .ok (.getfield 13, 3) := by decide +kernel
theorem dX7_add_15 : decode cX7_add 15 = .ok (.iconst 1, 1) := by decide +kernel
theorem dX7_add_16 : decode cX7_add 16 = .ok (.iadd, 1) := by decide +kernel
theorem dX7_add_17 : decode cX7_add 17 = .ok (.putfield 13, 3) := by decide +kernel
theorem dX7_add_20 : decode cX7_add 20 = .ok (.return_, 1) := by decide +kernel
theorem dX7_ledBackTo_0 : decode cX7_ledBackTo 0 = .ok (.iconst 0, 1) := by decide +kernel
theorem dX7_ledBackTo_1 : decode cX7_ledBackTo 1 = .ok (.istore_n 2, 1) := by decide +kernel
theorem dX7_ledBackTo_2 : decode cX7_ledBackTo 2 = .ok (.iload_n 2, 1) := by decide +kernel
theorem dX7_ledBackTo_3 : decode cX7_ledBackTo 3 = .ok (.aload_n 0, 1) := by decide +kernel
theorem dX7_ledBackTo_4 : decode cX7_ledBackTo 4 = .ok (.getfield 13, 3) := by decide +kernel
theorem dX7_ledBackTo_7 : decode cX7_ledBackTo 7 = .ok (.if_icmp .ge 21, 3) := by decide +kernel
theorem dX7_ledBackTo_10 : decode cX7_ledBackTo 10 = .ok (.aload_n 0, 1) := by decide +kernel
theorem dX7_ledBackTo_11 : decode cX7_ledBackTo 11 = .ok (.getfield 9, 3) := by decide +kernel
theorem dX7_ledBackTo_14 : decode cX7_ledBackTo 14 = .ok (.iload_n 2, 1) := by decide +kernel
theorem dX7_ledBackTo_15 : decode cX7_ledBackTo 15 = .ok (.iaload, 1) := by decide +kernel
theorem dX7_ledBackTo_16 : decode cX7_ledBackTo 16 = .ok (.iload_n 1, 1) := by decide +kernel
theorem dX7_ledBackTo_17 : decode cX7_ledBackTo 17 = .ok (.if_icmp .ne 5, 3) := by decide +kernel
theorem dX7_ledBackTo_20 : decode cX7_ledBackTo 20 = .ok (.iconst 1, 1) := by decide +kernel
theorem dX7_ledBackTo_21 : decode cX7_ledBackTo 21 = .ok (.ireturn, 1) := by decide +kernel
theorem dX7_ledBackTo_22 : decode cX7_ledBackTo 22 = .ok (.iinc 2 1, 3) := by decide +kernel
theorem dX7_ledBackTo_25 : decode cX7_ledBackTo 25 = .ok (.goto (-23), 3) := by decide +kernel
theorem dX7_ledBackTo_28 : decode cX7_ledBackTo 28 = .ok (.iconst 0, 1) := by decide +kernel
theorem dX7_ledBackTo_29 : decode cX7_ledBackTo 29 = .ok (.ireturn, 1) := by decide +kernel
theorem dJ6_bitCount_0f7a4_0 : decode cJ6_bitCount_0f7a4 0 = .ok (.iload_n 0, 1) := by decide +kernel
theorem dJ6_bitCount_0f7a4_1 : decode cJ6_bitCount_0f7a4 1 = .ok (.iload_n 0, 1) := by decide +kernel
theorem dJ6_bitCount_0f7a4_2 : decode cJ6_bitCount_0f7a4 2 = .ok (.iconst 1, 1) := by decide +kernel
theorem dJ6_bitCount_0f7a4_3 : decode cJ6_bitCount_0f7a4 3 = .ok (.iushr, 1) := by decide +kernel
theorem dJ6_bitCount_0f7a4_4 : decode cJ6_bitCount_0f7a4 4 = .ok (.ldc_w 265, 3) := by decide +kernel
theorem dJ6_bitCount_0f7a4_7 : decode cJ6_bitCount_0f7a4 7 = .ok (.iand, 1) := by decide +kernel
theorem dJ6_bitCount_0f7a4_8 : decode cJ6_bitCount_0f7a4 8 = .ok (.isub, 1) := by decide +kernel
theorem dJ6_bitCount_0f7a4_9 : decode cJ6_bitCount_0f7a4 9 = .ok (.istore_n 0, 1) := by decide +kernel
theorem dJ6_bitCount_0f7a4_10 : decode cJ6_bitCount_0f7a4 10 = .ok (.iload_n 0, 1) := by decide +kernel
theorem dJ6_bitCount_0f7a4_11 : decode cJ6_bitCount_0f7a4 11 = .ok (.ldc_w 266, 3) := by decide +kernel
theorem dJ6_bitCount_0f7a4_14 : decode cJ6_bitCount_0f7a4 14 = .ok (.iand, 1) := by decide +kernel
theorem dJ6_bitCount_0f7a4_15 : decode cJ6_bitCount_0f7a4 15 = .ok (.iload_n 0, 1) := by decide +kernel
theorem dJ6_bitCount_0f7a4_16 : decode cJ6_bitCount_0f7a4 16 = .ok (.iconst 2, 1) := by decide +kernel
theorem dJ6_bitCount_0f7a4_17 : decode cJ6_bitCount_0f7a4 17 = .ok (.iushr, 1) := by decide +kernel
theorem dJ6_bitCount_0f7a4_18 : decode cJ6_bitCount_0f7a4 18 = .ok (.ldc_w 266, 3) := by decide +kernel
theorem dJ6_bitCount_0f7a4_21 : decode cJ6_bitCount_0f7a4 21 = .ok (.iand, 1) := by decide +kernel
theorem dJ6_bitCount_0f7a4_22 : decode cJ6_bitCount_0f7a4 22 = .ok (.iadd, 1) := by decide +kernel
theorem dJ6_bitCount_0f7a4_23 : decode cJ6_bitCount_0f7a4 23 = .ok (.istore_n 0, 1) := by decide +kernel
theorem dJ6_bitCount_0f7a4_24 : decode cJ6_bitCount_0f7a4 24 = .ok (.iload_n 0, 1) := by decide +kernel
theorem dJ6_bitCount_0f7a4_25 : decode cJ6_bitCount_0f7a4 25 = .ok (.iload_n 0, 1) := by decide +kernel
theorem dJ6_bitCount_0f7a4_26 : decode cJ6_bitCount_0f7a4 26 = .ok (.iconst 4, 1) := by decide +kernel
theorem dJ6_bitCount_0f7a4_27 : decode cJ6_bitCount_0f7a4 27 = .ok (.iushr, 1) := by decide +kernel
theorem dJ6_bitCount_0f7a4_28 : decode cJ6_bitCount_0f7a4 28 = .ok (.iadd, 1) := by decide +kernel
theorem dJ6_bitCount_0f7a4_29 : decode cJ6_bitCount_0f7a4 29 = .ok (.ldc_w 267, 3) := by decide +kernel
theorem dJ6_bitCount_0f7a4_32 : decode cJ6_bitCount_0f7a4 32 = .ok (.iand, 1) := by decide +kernel
theorem dJ6_bitCount_0f7a4_33 : decode cJ6_bitCount_0f7a4 33 = .ok (.istore_n 0, 1) := by decide +kernel
theorem dJ6_bitCount_0f7a4_34 : decode cJ6_bitCount_0f7a4 34 = .ok (.iload_n 0, 1) := by decide +kernel
theorem dJ6_bitCount_0f7a4_35 : decode cJ6_bitCount_0f7a4 35 = .ok (.iload_n 0, 1) := by decide +kernel
theorem dJ6_bitCount_0f7a4_36 : decode cJ6_bitCount_0f7a4 36 = .ok (.bipush 8, 2) := by decide +kernel
theorem dJ6_bitCount_0f7a4_38 : decode cJ6_bitCount_0f7a4 38 = .ok (.iushr, 1) := by decide +kernel
theorem dJ6_bitCount_0f7a4_39 : decode cJ6_bitCount_0f7a4 39 = .ok (.iadd, 1) := by decide +kernel
theorem dJ6_bitCount_0f7a4_40 : decode cJ6_bitCount_0f7a4 40 = .ok (.istore_n 0, 1) := by decide +kernel
theorem dJ6_bitCount_0f7a4_41 : decode cJ6_bitCount_0f7a4 41 = .ok (.iload_n 0, 1) := by decide +kernel
theorem dJ6_bitCount_0f7a4_42 : decode cJ6_bitCount_0f7a4 42 = .ok (.iload_n 0, 1) := by decide +kernel
theorem dJ6_bitCount_0f7a4_43 : decode cJ6_bitCount_0f7a4 43 = .ok (.bipush 16, 2) := by decide +kernel
theorem dJ6_bitCount_0f7a4_45 : decode cJ6_bitCount_0f7a4 45 = .ok (.iushr, 1) := by decide +kernel
theorem dJ6_bitCount_0f7a4_46 : decode cJ6_bitCount_0f7a4 46 = .ok (.iadd, 1) := by decide +kernel
theorem dJ6_bitCount_0f7a4_47 : decode cJ6_bitCount_0f7a4 47 = .ok (.istore_n 0, 1) := by decide +kernel
theorem dJ6_bitCount_0f7a4_48 : decode cJ6_bitCount_0f7a4 48 = .ok (.iload_n 0, 1) := by decide +kernel
theorem dJ6_bitCount_0f7a4_49 : decode cJ6_bitCount_0f7a4 49 = .ok (.bipush 63, 2) := by decide +kernel
theorem dJ6_bitCount_0f7a4_51 : decode cJ6_bitCount_0f7a4 51 = .ok (.iand, 1) := by decide +kernel
theorem dJ6_bitCount_0f7a4_52 : decode cJ6_bitCount_0f7a4 52 = .ok (.ireturn, 1) := by decide +kernel
theorem dJ9_max_7cf53_0 : decode cJ9_max_7cf53 0 = .ok (.iload_n 0, 1) := by decide +kernel
theorem dJ9_max_7cf53_1 : decode cJ9_max_7cf53 1 = .ok (.iload_n 1, 1) := by decide +kernel
theorem dJ9_max_7cf53_2 : decode cJ9_max_7cf53 2 = .ok (.if_icmp .lt 7, 3) := by decide +kernel
theorem dJ9_max_7cf53_5 : decode cJ9_max_7cf53 5 = .ok (.iload_n 0, 1) := by decide +kernel
theorem dJ9_max_7cf53_6 : decode cJ9_max_7cf53 6 = .ok (.goto 4, 3) := by decide +kernel
theorem dJ9_max_7cf53_9 : decode cJ9_max_7cf53 9 = .ok (.iload_n 1, 1) := by decide +kernel
theorem dJ9_max_7cf53_10 : decode cJ9_max_7cf53 10 = .ok (.ireturn, 1) := by decide +kernel
theorem dJ9_min_7cf53_0 : decode cJ9_min_7cf53 0 = .ok (.iload_n 0, 1) := by decide +kernel
theorem dJ9_min_7cf53_1 : decode cJ9_min_7cf53 1 = .ok (.iload_n 1, 1) := by decide +kernel
theorem dJ9_min_7cf53_2 : decode cJ9_min_7cf53 2 = .ok (.if_icmp .gt 7, 3) := by decide +kernel
theorem dJ9_min_7cf53_5 : decode cJ9_min_7cf53 5 = .ok (.iload_n 0, 1) := by decide +kernel
theorem dJ9_min_7cf53_6 : decode cJ9_min_7cf53 6 = .ok (.goto 4, 3) := by decide +kernel
theorem dJ9_min_7cf53_9 : decode cJ9_min_7cf53 9 = .ok (.iload_n 1, 1) := by decide +kernel
theorem dJ9_min_7cf53_10 : decode cJ9_min_7cf53 10 = .ok (.ireturn, 1) := by decide +kernel
theorem dJ13_bitCount_95d88_0 : decode cJ13_bitCount_95d88 0 = .ok (.lload_n 0, 1) := by decide +kernel
theorem dJ13_bitCount_95d88_1 : decode cJ13_bitCount_95d88 1 = .ok (.lload_n 0, 1) := by decide +kernel
theorem dJ13_bitCount_95d88_2 : decode cJ13_bitCount_95d88 2 = .ok (.iconst 1, 1) := by decide +kernel
theorem dJ13_bitCount_95d88_3 : decode cJ13_bitCount_95d88 3 = .ok (.lushr, 1) := by decide +kernel
theorem dJ13_bitCount_95d88_4 : decode cJ13_bitCount_95d88 4 = .ok (.ldc2_w 314, 3) := by decide +kernel
theorem dJ13_bitCount_95d88_7 : decode cJ13_bitCount_95d88 7 = .ok (.land, 1) := by decide +kernel
theorem dJ13_bitCount_95d88_8 : decode cJ13_bitCount_95d88 8 = .ok (.lsub, 1) := by decide +kernel
theorem dJ13_bitCount_95d88_9 : decode cJ13_bitCount_95d88 9 = .ok (.lstore_n 0, 1) := by decide +kernel
theorem dJ13_bitCount_95d88_10 : decode cJ13_bitCount_95d88 10 = .ok (.lload_n 0, 1) := by decide +kernel
theorem dJ13_bitCount_95d88_11 : decode cJ13_bitCount_95d88 11 = .ok (.ldc2_w 316, 3) := by decide +kernel
theorem dJ13_bitCount_95d88_14 : decode cJ13_bitCount_95d88 14 = .ok (.land, 1) := by decide +kernel
theorem dJ13_bitCount_95d88_15 : decode cJ13_bitCount_95d88 15 = .ok (.lload_n 0, 1) := by decide +kernel
theorem dJ13_bitCount_95d88_16 : decode cJ13_bitCount_95d88 16 = .ok (.iconst 2, 1) := by decide +kernel
theorem dJ13_bitCount_95d88_17 : decode cJ13_bitCount_95d88 17 = .ok (.lushr, 1) := by decide +kernel
theorem dJ13_bitCount_95d88_18 : decode cJ13_bitCount_95d88 18 = .ok (.ldc2_w 316, 3) := by decide +kernel
theorem dJ13_bitCount_95d88_21 : decode cJ13_bitCount_95d88 21 = .ok (.land, 1) := by decide +kernel
theorem dJ13_bitCount_95d88_22 : decode cJ13_bitCount_95d88 22 = .ok (.ladd, 1) := by decide +kernel
theorem dJ13_bitCount_95d88_23 : decode cJ13_bitCount_95d88 23 = .ok (.lstore_n 0, 1) := by decide +kernel
theorem dJ13_bitCount_95d88_24 : decode cJ13_bitCount_95d88 24 = .ok (.lload_n 0, 1) := by decide +kernel
theorem dJ13_bitCount_95d88_25 : decode cJ13_bitCount_95d88 25 = .ok (.lload_n 0, 1) := by decide +kernel
theorem dJ13_bitCount_95d88_26 : decode cJ13_bitCount_95d88 26 = .ok (.iconst 4, 1) := by decide +kernel
theorem dJ13_bitCount_95d88_27 : decode cJ13_bitCount_95d88 27 = .ok (.lushr, 1) := by decide +kernel
theorem dJ13_bitCount_95d88_28 : decode cJ13_bitCount_95d88 28 = .ok (.ladd, 1) := by decide +kernel
theorem dJ13_bitCount_95d88_29 : decode cJ13_bitCount_95d88 29 = .ok (.ldc2_w 318, 3) := by decide +kernel
theorem dJ13_bitCount_95d88_32 : decode cJ13_bitCount_95d88 32 = .ok (.land, 1) := by decide +kernel
theorem dJ13_bitCount_95d88_33 : decode cJ13_bitCount_95d88 33 = .ok (.lstore_n 0, 1) := by decide +kernel
theorem dJ13_bitCount_95d88_34 : decode cJ13_bitCount_95d88 34 = .ok (.lload_n 0, 1) := by decide +kernel
theorem dJ13_bitCount_95d88_35 : decode cJ13_bitCount_95d88 35 = .ok (.lload_n 0, 1) := by decide +kernel
theorem dJ13_bitCount_95d88_36 : decode cJ13_bitCount_95d88 36 = .ok (.bipush 8, 2) := by decide +kernel
theorem dJ13_bitCount_95d88_38 : decode cJ13_bitCount_95d88 38 = .ok (.lushr, 1) := by decide +kernel
theorem dJ13_bitCount_95d88_39 : decode cJ13_bitCount_95d88 39 = .ok (.ladd, 1) := by decide +kernel
theorem dJ13_bitCount_95d88_40 : decode cJ13_bitCount_95d88 40 = .ok (.lstore_n 0, 1) := by decide +kernel
theorem dJ13_bitCount_95d88_41 : decode cJ13_bitCount_95d88 41 = .ok (.lload_n 0, 1) := by decide +kernel
theorem dJ13_bitCount_95d88_42 : decode cJ13_bitCount_95d88 42 = .ok (.lload_n 0, 1) := by decide +kernel
theorem dJ13_bitCount_95d88_43 : decode cJ13_bitCount_95d88 43 = .ok (.bipush 16, 2) := by decide +kernel
theorem dJ13_bitCount_95d88_45 : decode cJ13_bitCount_95d88 45 = .ok (.lushr, 1) := by decide +kernel
theorem dJ13_bitCount_95d88_46 : decode cJ13_bitCount_95d88 46 = .ok (.ladd, 1) := by decide +kernel
theorem dJ13_bitCount_95d88_47 : decode cJ13_bitCount_95d88 47 = .ok (.lstore_n 0, 1) := by decide +kernel
theorem dJ13_bitCount_95d88_48 : decode cJ13_bitCount_95d88 48 = .ok (.lload_n 0, 1) := by decide +kernel
theorem dJ13_bitCount_95d88_49 : decode cJ13_bitCount_95d88 49 = .ok (.lload_n 0, 1) := by decide +kernel
theorem dJ13_bitCount_95d88_50 : decode cJ13_bitCount_95d88 50 = .ok (.bipush 32, 2) := by decide +kernel
theorem dJ13_bitCount_95d88_52 : decode cJ13_bitCount_95d88 52 = .ok (.lushr, 1) := by decide +kernel
theorem dJ13_bitCount_95d88_53 : decode cJ13_bitCount_95d88 53 = .ok (.ladd, 1) := by decide +kernel
theorem dJ13_bitCount_95d88_54 : decode cJ13_bitCount_95d88 54 = .ok (.lstore_n 0, 1) := by decide +kernel
theorem dJ13_bitCount_95d88_55 : decode cJ13_bitCount_95d88 55 = .ok (.lload_n 0, 1) := by decide +kernel
theorem dJ13_bitCount_95d88_56 : decode cJ13_bitCount_95d88 56 = .ok (.l2i, 1) := by decide +kernel
theorem dJ13_bitCount_95d88_57 : decode cJ13_bitCount_95d88 57 = .ok (.bipush 127, 2) := by decide +kernel
theorem dJ13_bitCount_95d88_59 : decode cJ13_bitCount_95d88 59 = .ok (.iand, 1) := by decide +kernel
theorem dJ13_bitCount_95d88_60 : decode cJ13_bitCount_95d88 60 = .ok (.ireturn, 1) := by decide +kernel
