theorem dX8_init_0 : decode cX8_init 0 = .ok (.aload_n 0, 1) := by decide +kernel
theorem dX8_init_1 : decode cX8_init 1 = .ok (.invokespecial 1, 3) := by decide +kernel
theorem dX8_init_4 : decode cX8_init 4 = .ok (.aload_n 0, 1) := by decide +kernel
theorem dX8_init_5 : decode cX8_init 5 = .ok (.new 7, 3) := by decide +kernel
theorem dX8_init_8 : decode cX8_init 8 = .ok (.dup, 1) := by decide +kernel
theorem dX8_init_9 : decode cX8_init 9 = .ok (.invokespecial 9, 3) := by decide +kernel
theorem dX8_init_12 : decode cX8_init 12 = .ok (.putfield 10, 3) := by decide +kernel
theorem dX8_init_15 : decode cX8_init 15 = .ok (.aload_n 0, 1) := by decide +kernel
theorem dX8_init_16 : decode cX8_init 16 = .ok (.new 16, 3) := by decide +kernel
theorem dX8_init_19 : decode cX8_init 19 = .ok (.dup, 1) := by decide +kernel
theorem dX8_init_20 : decode cX8_init 20 = .ok (.invokespecial 18, 3) := by decide +kernel
theorem dX8_init_23 : decode cX8_init 23 = .ok (.putfield 19, 3) := by decide +kernel
theorem dX8_init_26 : decode cX8_init 26 = .ok (.aload_n 0, 1) := by decide +kernel
theorem dX8_init_27 : decode cX8_init 27 = .ok (.new 23, 3) := by decide +kernel
theorem dX8_init_30 : decode cX8_init 30 = .ok (.dup, 1) := by decide +kernel
theorem dX8_init_31 : decode cX8_init 31 = .ok (.invokespecial 25, 3) := by decide +kernel
theorem dX8_init_34 : decode cX8_init 34 = .ok (.putfield 26, 3) := by decide +kernel
theorem dX8_init_37 : decode cX8_init 37 = .ok (.aload_n 0, 1) := by decide +kernel
theorem dX8_init_38 : decode cX8_init 38 = .ok (.new 30, 3) := by decide +kernel
theorem dX8_init_41 : decode cX8_init 41 = .ok (.dup, 1) := by decide +kernel
theorem dX8_init_42 : decode cX8_init 42 = .ok (.invokespecial 32, 3) := by decide +kernel
theorem dX8_init_45 : decode cX8_init 45 = .ok (.putfield 33, 3) := by decide +kernel
theorem dX8_init_48 : decode cX8_init 48 = .ok (.aload_n 0, 1) := by decide +kernel
theorem dX8_init_49 : decode cX8_init 49 = .ok (.new 37, 3) := by decide +kernel
theorem dX8_init_52 : decode cX8_init 52 = .ok (.dup, 1) := by decide +kernel
theorem dX8_init_53 : decode cX8_init 53 = .ok (.invokespecial 39, 3) := by decide +kernel
theorem dX8_init_56 : decode cX8_init 56 = .ok (.putfield 40, 3) := by decide +kernel
theorem dX8_init_59 : decode cX8_init 59 = .ok (.aload_n 0, 1) := by decide +kernel
theorem dX8_init_60 : decode cX8_init 60 = .ok (.new 44, 3) := by decide +kernel
theorem dX8_init_63 : decode cX8_init 63 = .ok (.dup, 1) := by decide +kernel
theorem dX8_init_64 : decode cX8_init 64 = .ok (.invokespecial 46, 3) := by decide +kernel
theorem dX8_init_67 : decode cX8_init 67 = .ok (.putfield 47, 3) := by decide +kernel
theorem dX8_init_70 : decode cX8_init 70 = .ok (.aload_n 0, 1) := by decide +kernel
theorem dX8_init_71 : decode cX8_init 71 = .ok (.iconst 4, 1) := by decide +kernel
theorem dX8_init_72 : decode cX8_init 72 = .ok (.newarray .int, 2) := by decide +kernel
theorem dX8_init_74 : decode cX8_init 74 = .ok (.dup, 1) := by decide +kernel
theorem dX8_init_75 : decode cX8_init 75 = .ok (.iconst 0, 1) := by decide +kernel
theorem dX8_init_76 : decode cX8_init 76 = .ok (.iconst 4, 1) := by decide +kernel
theorem dX8_init_77 : decode cX8_init 77 = .ok (.iastore, 1) := by decide +kernel
theorem dX8_init_78 : decode cX8_init 78 = .ok (.dup, 1) := by decide +kernel
theorem dX8_init_79 : decode cX8_init 79 = .ok (.iconst 1, 1) := by decide +kernel
theorem dX8_init_80 : decode cX8_init 80 = .ok (.sipush 600, 3) := by decide +kernel
theorem dX8_init_83 : decode cX8_init 83 = .ok (.iastore, 1) := by decide +kernel
theorem dX8_init_84 : decode cX8_init 84 = .ok (.dup, 1) := by decide +kernel
theorem dX8_init_85 : decode cX8_init 85 = .ok (.iconst 2, 1) := by decide +kernel
theorem dX8_init_86 : decode cX8_init 86 = .ok (.bipush 30, 2) := by decide +kernel
theorem dX8_init_88 : decode cX8_init 88 = .ok (.iastore, 1) := by decide +kernel
theorem dX8_init_89 : decode cX8_init 89 = .ok (.dup, 1) := by decide +kernel
theorem dX8_init_90 : decode cX8_init 90 = .ok (.iconst 3, 1) := by decide +kernel
theorem dX8_init_91 : decode cX8_init 91 = .ok (.iconst 1, 1) := by decide +kernel
theorem dX8_init_92 : decode cX8_init 92 = .ok (.iastore, 1) := by decide +kernel
theorem dX8_init_93 : decode cX8_init 93 = .ok (.putfield 51, 3) := by decide +kernel
theorem dX8_init_96 : decode cX8_init 96 = .ok (.aload_n 0, 1) := by decide +kernel
theorem dX8_init_97 : decode cX8_init 97 = .ok (.bipush 7, 2) := by decide +kernel
theorem dX8_init_99 : decode cX8_init 99 = .ok (.newarray .int, 2) := by decide +kernel
theorem dX8_init_101 : decode cX8_init 101 = .ok (.putfield 55, 3) := by decide +kernel
theorem dX8_init_104 : decode cX8_init 104 = .ok (.aload_n 0, 1) := by decide +kernel
theorem dX8_init_105 : decode cX8_init 105 = .ok (.iconst 0, 1) := by decide +kernel
theorem dX8_init_106 : decode cX8_init 106 = .ok (.putfield 58, 3) := by decide +kernel
theorem dX8_init_109 : decode cX8_init 109 = .ok (.new 62, 3) := by decide +kernel
theorem dX8_init_112 : decode cX8_init 112 = .ok (.dup, 1) := by decide +kernel
theorem dX8_init_113 : decode cX8_init 113 = .ok (.invokespecial 64, 3) := by decide +kernel
theorem dX8_init_116 : decode cX8_init 116 = .ok (.astore_n 1, 1) := by decide +kernel
theorem dX8_init_117 : decode cX8_init 117 = .ok (.aload_n 0, 1) := by decide +kernel
theorem dX8_init_118 : decode cX8_init 118 = .ok (.aload_n 1, 1) := by decide +kernel
theorem dX8_init_119 : decode cX8_init 119 = .ok (.putfield 65, 3) := by decide +kernel
theorem dX8_init_122 : decode cX8_init 122 = .ok (.aload_n 0, 1) := by decide +kernel
theorem dX8_init_123 : decode cX8_init 123 = .ok (.new 69, 3) := by decide +kernel
theorem dX8_init_126 : decode cX8_init 126 = .ok (.dup, 1) := by decide +kernel
theorem dX8_init_127 : decode cX8_init 127 = .ok (.aload_n 1, 1) := by decide +kernel
theorem dX8_init_128 : decode cX8_init 128 = .ok (.invokespecial 71, 3) := by decide +kernel
theorem dX8_init_131 : decode cX8_init 131 = .ok (.putfield 74, 3) := by decide +kernel
theorem dX8_init_134 : decode cX8_init 134 = .ok (.aload_n 0, 1) := by decide +kernel
theorem dX8_init_135 : decode cX8_init 135 = .ok (.new 69, 3) := by decide +kernel
theorem dX8_init_138 : decode cX8_init 138 = .ok (.dup, 1) := by decide +kernel
theorem dX8_init_139 : decode cX8_init 139 = .ok (.aload_n 1, 1) := by decide +kernel
theorem dX8_init_140 : decode cX8_init 140 = .ok (.invokespecial 71, 3) := by decide +kernel
theorem dX8_init_143 : decode cX8_init 143 = .ok (.putfield 78, 3) := by decide +kernel
theorem dX8_init_146 : decode cX8_init 146 = .ok (.return_, 1) := by decide +kernel
theorem dX8_hand_0 : decode cX8_hand 0 = .ok (.iload_n 1, 1) := by decide +kernel
theorem dX8_hand_1 : decode cX8_hand 1 = .ok (.invokestatic 81, 3) := by decide +kernel
theorem dX8_hand_4 : decode cX8_hand 4 = .ok (.ifCond .ne 9, 3) := by decide +kernel
theorem dX8_hand_7 : decode cX8_hand 7 = .ok (.aload_n 0, 1) := by decide +kernel
theorem dX8_hand_8 : decode cX8_hand 8 = .ok (.iconst (-1), 1) := by decide +kernel
theorem dX8_hand_9 : decode cX8_hand 9 = .ok (.invokevirtual 85, 3) := by decide +kernel
theorem dX8_hand_12 : decode cX8_hand 12 = .ok (.ireturn, 1) := by decide +kernel
theorem dX8_hand_13 : decode cX8_hand 13 = .ok (.aload_n 0, 1) := by decide +kernel
theorem dX8_hand_14 : decode cX8_hand 14 = .ok (.getfield 10, 3) := by decide +kernel
theorem dX8_hand_17 : decode cX8_hand 17 = .ok (.getfield 89, 3) := by decide +kernel
theorem dX8_hand_20 : decode cX8_hand 20 = .ok (.bipush 40, 2) := by decide +kernel
theorem dX8_hand_22 : decode cX8_hand 22 = .ok (.if_icmp .lt 10, 3) := by decide +kernel
theorem dX8_hand_25 : decode cX8_hand 25 = .ok (.aload_n 0, 1) := by decide +kernel
theorem dX8_hand_26 : decode cX8_hand 26 = .ok (.bipush (-6), 2) := by decide +kernel
theorem dX8_hand_28 : decode cX8_hand 28 = .ok (.invokevirtual 85, 3) := by decide +kernel
theorem dX8_hand_31 : decode cX8_hand 31 = .ok (.ireturn, 1) := by decide +kernel
theorem dX8_hand_32 : decode cX8_hand 32 = .ok (.aload_n 0, 1) := by decide +kernel
theorem dX8_hand_33 : decode cX8_hand 33 = .ok (.getfield 10, 3) := by decide +kernel
theorem dX8_hand_36 : decode cX8_hand 36 = .ok (.iload_n 1, 1) := by decide +kernel
theorem dX8_hand_37 : decode cX8_hand 37 = .ok (.invokevirtual 92, 3) := by decide +kernel
theorem dX8_hand_40 : decode cX8_hand 40 = .ok (.ireturn, 1) := by decide +kernel
theorem dX8_kin_0 : decode cX8_kin 0 = .ok (.aload_n 0, 1) := by decide +kernel
theorem dX8_kin_1 : decode cX8_kin 1 = .ok (.iload_n 1, 1) := by decide +kernel
theorem dX8_kin_2 : decode cX8_kin 2 = .ok (.invokevirtual 95, 3) := by decide +kernel
theorem dX8_kin_5 : decode cX8_kin 5 = .ok (.ifCond .eq 16, 3) := by decide +kernel
theorem dX8_kin_8 : decode cX8_kin 8 = .ok (.aload_n 0, 1) := by decide +kernel
theorem dX8_kin_9 : decode cX8_kin 9 = .ok (.iload_n 2, 1) := by decide +kernel
theorem dX8_kin_10 : decode cX8_kin 10 = .ok (.invokevirtual 95, 3) := by decide +kernel
theorem dX8_kin_13 : decode cX8_kin 13 = .ok (.ifCond .eq 8, 3) := by decide +kernel
theorem dX8_kin_16 : decode cX8_kin 16 = .ok (.iload_n 1, 1) := by decide +kernel
theorem dX8_kin_17 : decode cX8_kin 17 = .ok (.iload_n 2, 1) := by decide +kernel
theorem dX8_kin_18 : decode cX8_kin 18 = .ok (.if_icmp .ne 9, 3) := by decide +kernel
theorem dX8_kin_21 : decode cX8_kin 21 = .ok (.aload_n 0, 1) := by decide +kernel
theorem dX8_kin_22 : decode cX8_kin 22 = .ok (.iconst (-1), 1) := by decide +kernel
theorem dX8_kin_23 : decode cX8_kin 23 = .ok (.invokevirtual 85, 3) := by decide +kernel
theorem dX8_kin_26 : decode cX8_kin 26 = .ok (.ireturn, 1) := by decide +kernel
theorem dX8_kin_27 : decode cX8_kin 27 = .ok (.aload_n 0, 1) := by decide +kernel
theorem dX8_kin_28 : decode cX8_kin 28 = .ok (.getfield 10, 3) := by decide +kernel
theorem dX8_kin_31 : decode cX8_kin 31 = .ok (.iload_n 1, 1) := by decide +kernel
theorem dX8_kin_32 : decode cX8_kin 32 = .ok (.iload_n 2, 1) := by decide +kernel
theorem dX8_kin_33 : decode cX8_kin 33 = .ok (.iload_n 3, 1) := by decide +kernel
theorem dX8_kin_34 : decode cX8_kin 34 = .ok (.invokevirtual 98, 3) := by decide +kernel
theorem dX8_kin_37 : decode cX8_kin 37 = .ok (.ifCond .eq 7, 3) := by decide +kernel
theorem dX8_kin_40 : decode cX8_kin 40 = .ok (.iconst 1, 1) := by decide +kernel
theorem dX8_kin_41 : decode cX8_kin 41 = .ok (.goto 4, 3) := by decide +kernel
theorem dX8_kin_44 : decode cX8_kin 44 = .ok (.iconst 0, 1) := by decide +kernel
theorem dX8_kin_45 : decode cX8_kin 45 = .ok (.ireturn, 1) := by decide +kernel
theorem dX8_idea_0 : decode cX8_idea 0 = .ok (.aload_n 0, 1) := by decide +kernel
theorem dX8_idea_1 : decode cX8_idea 1 = .ok (.iload_n 1, 1) := by decide +kernel
theorem dX8_idea_2 : decode cX8_idea 2 = .ok (.invokevirtual 95, 3) := by decide +kernel
theorem dX8_idea_5 : decode cX8_idea 5 = .ok (.ifCond .eq 17, 3) := by decide +kernel
theorem dX8_idea_8 : decode cX8_idea 8 = .ok (.iload_n 2, 1) := by decide +kernel
theorem dX8_idea_9 : decode cX8_idea 9 = .ok (.invokestatic 81, 3) := by decide +kernel
theorem dX8_idea_12 : decode cX8_idea 12 = .ok (.ifCond .eq 10, 3) := by decide +kernel
theorem dX8_idea_15 : decode cX8_idea 15 = .ok (.iload_n 3, 1) := by decide +kernel
theorem dX8_idea_16 : decode cX8_idea 16 = .ok (.invokestatic 102, 3) := by decide +kernel
theorem dX8_idea_19 : decode cX8_idea 19 = .ok (.ifCond .ne 9, 3) := by decide +kernel
theorem dX8_idea_22 : decode cX8_idea 22 = .ok (.aload_n 0, 1) := by decide +kernel
theorem dX8_idea_23 : decode cX8_idea 23 = .ok (.iconst (-1), 1) := by decide +kernel
theorem dX8_idea_24 : decode cX8_idea 24 = .ok (.invokevirtual 85, 3) := by decide +kernel
theorem dX8_idea_27 : decode cX8_idea 27 = .ok (.ireturn, 1) := by decide +kernel
theorem dX8_idea_28 : decode cX8_idea 28 = .ok (.iload 4, 2) := by decide +kernel
theorem dX8_idea_30 : decode cX8_idea 30 = .ok (.ifCond .ge 10, 3) := by decide +kernel
theorem dX8_idea_33 : decode cX8_idea 33 = .ok (.aload_n 0, 1) := by decide +kernel
theorem dX8_idea_34 : decode cX8_idea 34 = .ok (.bipush (-4), 2) := by decide +kernel
theorem dX8_idea_36 : decode cX8_idea 36 = .ok (.invokevirtual 85, 3) := by decide +kernel
theorem dX8_idea_39 : decode cX8_idea 39 = .ok (.ireturn, 1) := by decide +kernel
theorem dX8_idea_40 : decode cX8_idea 40 = .ok (.iload 4, 2) := by decide +kernel
theorem dX8_idea_42 : decode cX8_idea 42 = .ok (.bipush 9, 2) := by decide +kernel
theorem dX8_idea_44 : decode cX8_idea 44 = .ok (.if_icmp .gt 15, 3) := by decide +kernel
theorem dX8_idea_47 : decode cX8_idea 47 = .ok (.aload_n 0, 1) := by decide +kernel
theorem dX8_idea_48 : decode cX8_idea 48 = .ok (.getfield 65, 3) := by decide +kernel
theorem dX8_idea_51 : decode cX8_idea 51 = .ok (.getfield 105, 3) := by decide +kernel
theorem dX8_idea_54 : decode cX8_idea 54 = .ok (.bipush 40, 2) := by decide +kernel
theorem dX8_idea_56 : decode cX8_idea 56 = .ok (.if_icmp .lt 10, 3) := by decide +kernel
theorem dX8_idea_59 : decode cX8_idea 59 = .ok (.aload_n 0, 1) := by decide +kernel
theorem dX8_idea_60 : decode cX8_idea 60 = .ok (.bipush (-6), 2) := by decide +kernel
theorem dX8_idea_62 : decode cX8_idea 62 = .ok (.invokevirtual 85, 3) := by decide +kernel
theorem dX8_idea_65 : decode cX8_idea 65 = .ok (.ireturn, 1) := by decide +kernel
theorem dX8_idea_66 : decode cX8_idea 66 = .ok (.aload_n 0, 1) := by decide +kernel
theorem dX8_idea_67 : decode cX8_idea 67 = .ok (.getfield 65, 3) := by decide +kernel
theorem dX8_idea_70 : decode cX8_idea 70 = .ok (.iload_n 1, 1) := by decide +kernel
theorem dX8_idea_71 : decode cX8_idea 71 = .ok (.iload_n 2, 1) := by decide +kernel
theorem dX8_idea_72 : decode cX8_idea 72 = .ok (.iload_n 3, 1) := by decide +kernel
theorem dX8_idea_73 : decode cX8_idea 73 = .ok (.iload 4, 2) := by decide +kernel
theorem dX8_idea_75 : decode cX8_idea 75 = .ok (.aload_n 0, 1) := by decide +kernel
theorem dX8_idea_76 : decode cX8_idea 76 = .ok (.getfield 58, 3) := by decide +kernel
theorem dX8_idea_79 : decode cX8_idea 79 = .ok (.invokevirtual 106, 3) := by decide +kernel
theorem dX8_idea_82 : decode cX8_idea 82 = .ok (.istore 5, 2) := by decide +kernel
theorem dX8_idea_84 : decode cX8_idea 84 = .ok (.aload_n 0, 1) := by decide +kernel
theorem dX8_idea_85 : decode cX8_idea 85 = .ok (.getfield 74, 3) := by decide +kernel
theorem dX8_idea_88 : decode cX8_idea 88 = .ok (.iload 5, 2) := by decide +kernel
theorem dX8_idea_90 : decode cX8_idea 90 = .ok (.aload_n 0, 1) := by decide +kernel
theorem dX8_idea_91 : decode cX8_idea 91 = .ok (.getfield 51, 3) := by decide +kernel
theorem dX8_idea_94 : decode cX8_idea 94 = .ok (.iconst 0, 1) := by decide +kernel
theorem dX8_idea_95 : decode cX8_idea 95 = .ok (.iaload, 1) := by decide +kernel
theorem dX8_idea_96 : decode cX8_idea 96 = .ok (.invokevirtual 109, 3) := by decide +kernel
theorem dX8_idea_99 : decode cX8_idea 99 = .ok (.iload 5, 2) := by decide +kernel
theorem dX8_idea_101 : decode cX8_idea 101 = .ok (.ireturn, 1) := by decide +kernel
theorem dX8_team_0 : decode cX8_team 0 = .ok (.aload_n 0, 1) := by decide +kernel
theorem dX8_team_1 : decode cX8_team 1 = .ok (.iload_n 1, 1) := by decide +kernel
theorem dX8_team_2 : decode cX8_team 2 = .ok (.invokevirtual 113, 3) := by decide +kernel
theorem dX8_team_5 : decode cX8_team 5 = .ok (.ifCond .eq 11, 3) := by decide +kernel
theorem dX8_team_8 : decode cX8_team 8 = .ok (.aload_n 0, 1) := by decide +kernel
theorem dX8_team_9 : decode cX8_team 9 = .ok (.iload_n 2, 1) := by decide +kernel
theorem dX8_team_10 : decode cX8_team 10 = .ok (.invokevirtual 95, 3) := by decide +kernel
theorem dX8_team_13 : decode cX8_team 13 = .ok (.ifCond .ne 9, 3) := by decide +kernel
theorem dX8_team_16 : decode cX8_team 16 = .ok (.aload_n 0, 1) := by decide +kernel
theorem dX8_team_17 : decode cX8_team 17 = .ok (.iconst (-1), 1) := by decide +kernel
theorem dX8_team_18 : decode cX8_team 18 = .ok (.invokevirtual 85, 3) := by decide +kernel
theorem dX8_team_21 : decode cX8_team 21 = .ok (.ireturn, 1) := by decide +kernel
theorem dX8_team_22 : decode cX8_team 22 = .ok (.aload_n 0, 1) := by decide +kernel
theorem dX8_team_23 : decode cX8_team 23 = .ok (.getfield 65, 3) := by decide +kernel
theorem dX8_team_26 : decode cX8_team 26 = .ok (.iload_n 1, 1) := by decide +kernel
theorem dX8_team_27 : decode cX8_team 27 = .ok (.invokevirtual 116, 3) := by decide +kernel
theorem dX8_team_30 : decode cX8_team 30 = .ok (.iload_n 2, 1) := by decide +kernel
theorem dX8_team_31 : decode cX8_team 31 = .ok (.invokestatic 120, 3) := by decide +kernel
theorem dX8_team_34 : decode cX8_team 34 = .ok (.ifCond .eq 10, 3) := by decide +kernel
theorem dX8_team_37 : decode cX8_team 37 = .ok (.aload_n 0, 1) := by decide +kernel
theorem dX8_team_38 : decode cX8_team 38 = .ok (.bipush (-3), 2) := by decide +kernel
theorem dX8_team_40 : decode cX8_team 40 = .ok (.invokevirtual 85, 3) := by decide +kernel
theorem dX8_team_43 : decode cX8_team 43 = .ok (.ireturn, 1) := by decide +kernel
theorem dX8_team_44 : decode cX8_team 44 = .ok (.aload_n 0, 1) := by decide +kernel
theorem dX8_team_45 : decode cX8_team 45 = .ok (.getfield 65, 3) := by decide +kernel
theorem dX8_team_48 : decode cX8_team 48 = .ok (.iload_n 1, 1) := by decide +kernel
theorem dX8_team_49 : decode cX8_team 49 = .ok (.invokevirtual 124, 3) := by decide +kernel
theorem dX8_team_52 : decode cX8_team 52 = .ok (.bipush 6, 2) := by decide +kernel
theorem dX8_team_54 : decode cX8_team 54 = .ok (.if_icmp .lt 10, 3) := by decide +kernel
theorem dX8_team_57 : decode cX8_team 57 = .ok (.aload_n 0, 1) := by decide +kernel
theorem dX8_team_58 : decode cX8_team 58 = .ok (.bipush (-6), 2) := by decide +kernel
theorem dX8_team_60 : decode cX8_team 60 = .ok (.invokevirtual 85, 3) := by decide +kernel
theorem dX8_team_63 : decode cX8_team 63 = .ok (.ireturn, 1) := by decide +kernel
theorem dX8_team_64 : decode cX8_team 64 = .ok (.aload_n 0, 1) := by decide +kernel
theorem dX8_team_65 : decode cX8_team 65 = .ok (.getfield 65, 3) := by decide +kernel
theorem dX8_team_68 : decode cX8_team 68 = .ok (.getfield 127, 3) := by decide +kernel
theorem dX8_team_71 : decode cX8_team 71 = .ok (.iload_n 1, 1) := by decide +kernel
theorem dX8_team_72 : decode cX8_team 72 = .ok (.dup2, 1) := by decide +kernel
theorem dX8_team_73 : decode cX8_team 73 = .ok (.laload, 1) := by decide +kernel
theorem dX8_team_74 : decode cX8_team 74 = .ok (.lconst 1, 1) := by decide +kernel
theorem dX8_team_75 : decode cX8_team 75 = .ok (.iload_n 2, 1) := by decide +kernel
theorem dX8_team_76 : decode cX8_team 76 = .ok (.lshl, 1) := by decide +kernel
theorem dX8_team_77 : decode cX8_team 77 = .ok (.lor, 1) := by decide +kernel
theorem dX8_team_78 : decode cX8_team 78 = .ok (.lastore, 1) := by decide +kernel
theorem dX8_team_79 : decode cX8_team 79 = .ok (.aload_n 0, 1) := by decide +kernel
theorem dX8_team_80 : decode cX8_team 80 = .ok (.getfield 65, 3) := by decide +kernel
theorem dX8_team_83 : decode cX8_team 83 = .ok (.iload_n 1, 1) := by decide +kernel
theorem dX8_team_84 : decode cX8_team 84 = .ok (.invokevirtual 124, 3) := by decide +kernel
theorem dX8_team_87 : decode cX8_team 87 = .ok (.ireturn, 1) := by decide +kernel
theorem dX8_set_0 : decode cX8_set 0 = .ok (.iload_n 1, 1) := by decide +kernel
theorem dX8_set_1 : decode cX8_set 1 = .ok (.ifCond .lt 12, 3) := by decide +kernel
theorem dX8_set_4 : decode cX8_set 4 = .ok (.iload_n 1, 1) := by decide +kernel
theorem dX8_set_5 : decode cX8_set 5 = .ok (.aload_n 0, 1) := by decide +kernel
theorem dX8_set_6 : decode cX8_set 6 = .ok (.getfield 51, 3) := by decide +kernel
theorem dX8_set_9 : decode cX8_set 9 = .ok (.arraylength, 1) := by decide +kernel
theorem dX8_set_10 : decode cX8_set 10 = .ok (.if_icmp .lt 10, 3) := by decide +kernel
theorem dX8_set_13 : decode cX8_set 13 = .ok (.aload_n 0, 1) := by decide +kernel
theorem dX8_set_14 : decode cX8_set 14 = .ok (.bipush (-2), 2) := by decide +kernel
theorem dX8_set_16 : decode cX8_set 16 = .ok (.invokevirtual 85, 3) := by decide +kernel
theorem dX8_set_19 : decode cX8_set 19 = .ok (.ireturn, 1) := by decide +kernel
theorem dX8_set_20 : decode cX8_set 20 = .ok (.iload_n 2, 1) := by decide +kernel
theorem dX8_set_21 : decode cX8_set 21 = .ok (.getstatic 131, 3) := by decide +kernel
theorem dX8_set_24 : decode cX8_set 24 = .ok (.iload_n 1, 1) := by decide +kernel
theorem dX8_set_25 : decode cX8_set 25 = .ok (.iaload, 1) := by decide +kernel
theorem dX8_set_26 : decode cX8_set 26 = .ok (.if_icmp .ge 10, 3) := by decide +kernel
theorem dX8_set_29 : decode cX8_set 29 = .ok (.aload_n 0, 1) := by decide +kernel
theorem dX8_set_30 : decode cX8_set 30 = .ok (.bipush (-4), 2) := by decide +kernel
theorem dX8_set_32 : decode cX8_set 32 = .ok (.invokevirtual 85, 3) := by decide +kernel
theorem dX8_set_35 : decode cX8_set 35 = .ok (.ireturn, 1) := by decide +kernel
theorem dX8_set_36 : decode cX8_set 36 = .ok (.iload_n 2, 1) := by decide +kernel
theorem dX8_set_37 : decode cX8_set 37 = .ok (.getstatic 134, 3) := by decide +kernel
theorem dX8_set_40 : decode cX8_set 40 = .ok (.iload_n 1, 1) := by decide +kernel
theorem dX8_set_41 : decode cX8_set 41 = .ok (.iaload, 1) := by decide +kernel
theorem dX8_set_42 : decode cX8_set 42 = .ok (.if_icmp .le 10, 3) := by decide +kernel
theorem dX8_set_45 : decode cX8_set 45 = .ok (.aload_n 0, 1) := by decide +kernel
theorem dX8_set_46 : decode cX8_set 46 = .ok (.bipush (-6), 2) := by decide +kernel
theorem dX8_set_48 : decode cX8_set 48 = .ok (.invokevirtual 85, 3) := by decide +kernel
theorem dX8_set_51 : decode cX8_set 51 = .ok (.ireturn, 1) := by decide +kernel
theorem dX8_set_52 : decode cX8_set 52 = .ok (.aload_n 0, 1) := by decide +kernel
theorem dX8_set_53 : decode cX8_set 53 = .ok (.getfield 51, 3) := by decide +kernel
theorem dX8_set_56 : decode cX8_set 56 = .ok (.iload_n 1, 1) := by decide +kernel
theorem dX8_set_57 : decode cX8_set 57 = .ok (.iaload, 1) := by decide +kernel
theorem dX8_set_58 : decode cX8_set 58 = .ok (.istore_n 3, 1) := by decide +kernel
theorem dX8_set_59 : decode cX8_set 59 = .ok (.aload_n 0, 1) := by decide +kernel
theorem dX8_set_60 : decode cX8_set 60 = .ok (.getfield 51, 3) := by decide +kernel
theorem dX8_set_63 : decode cX8_set 63 = .ok (.iload_n 1, 1) := by decide +kernel
theorem dX8_set_64 : decode cX8_set 64 = .ok (.iload_n 2, 1) := by decide +kernel
theorem dX8_set_65 : decode cX8_set 65 = .ok (.iastore, 1) := by decide +kernel
theorem dX8_set_66 : decode cX8_set 66 = .ok (.iload_n 1, 1) := by decide +kernel
theorem dX8_set_67 : decode cX8_set 67 = .ok (.ifCond .ne 16, 3) := by decide +kernel
theorem dX8_set_70 : decode cX8_set 70 = .ok (.iload_n 2, 1) := by decide +kernel
theorem dX8_set_71 : decode cX8_set 71 = .ok (.iload_n 3, 1) := by decide +kernel
theorem dX8_set_72 : decode cX8_set 72 = .ok (.if_icmp .eq 11, 3) := by decide +kernel
theorem dX8_set_75 : decode cX8_set 75 = .ok (.aload_n 0, 1) := by decide +kernel
theorem dX8_set_76 : decode cX8_set 76 = .ok (.getfield 74, 3) := by decide +kernel
theorem dX8_set_79 : decode cX8_set 79 = .ok (.iload_n 2, 1) := by decide +kernel
theorem dX8_set_80 : decode cX8_set 80 = .ok (.invokevirtual 137, 3) := by decide +kernel
theorem dX8_set_83 : decode cX8_set 83 = .ok (.iload_n 3, 1) := by decide +kernel
theorem dX8_set_84 : decode cX8_set 84 = .ok (.ireturn, 1) := by decide +kernel
theorem dX8_like_0 : decode cX8_like 0 = .ok (.aload_n 0, 1) := by decide +kernel
theorem dX8_like_1 : decode cX8_like 1 = .ok (.iload_n 1, 1) := by decide +kernel
theorem dX8_like_2 : decode cX8_like 2 = .ok (.invokevirtual 113, 3) := by decide +kernel
theorem dX8_like_5 : decode cX8_like 5 = .ok (.ifCond .eq 11, 3) := by decide +kernel
theorem dX8_like_8 : decode cX8_like 8 = .ok (.aload_n 0, 1) := by decide +kernel
theorem dX8_like_9 : decode cX8_like 9 = .ok (.iload_n 2, 1) := by decide +kernel
theorem dX8_like_10 : decode cX8_like 10 = .ok (.invokevirtual 113, 3) := by decide +kernel
theorem dX8_like_13 : decode cX8_like 13 = .ok (.ifCond .ne 9, 3) := by decide +kernel
theorem dX8_like_16 : decode cX8_like 16 = .ok (.aload_n 0, 1) := by decide +kernel
theorem dX8_like_17 : decode cX8_like 17 = .ok (.iconst (-1), 1) := by decide +kernel
theorem dX8_like_18 : decode cX8_like 18 = .ok (.invokevirtual 85, 3) := by decide +kernel
theorem dX8_like_21 : decode cX8_like 21 = .ok (.ireturn, 1) := by decide +kernel
theorem dX8_like_22 : decode cX8_like 22 = .ok (.sipush 1000, 3) := by decide +kernel
theorem dX8_like_25 : decode cX8_like 25 = .ok (.aload_n 0, 1) := by decide +kernel
theorem dX8_like_26 : decode cX8_like 26 = .ok (.getfield 65, 3) := by decide +kernel
theorem dX8_like_29 : decode cX8_like 29 = .ok (.getfield 141, 3) := by decide +kernel
theorem dX8_like_32 : decode cX8_like 32 = .ok (.iload_n 1, 1) := by decide +kernel
theorem dX8_like_33 : decode cX8_like 33 = .ok (.iaload, 1) := by decide +kernel
theorem dX8_like_34 : decode cX8_like 34 = .ok (.aload_n 0, 1) := by decide +kernel
theorem dX8_like_35 : decode cX8_like 35 = .ok (.getfield 65, 3) := by decide +kernel
theorem dX8_like_38 : decode cX8_like 38 = .ok (.getfield 141, 3) := by decide +kernel
theorem dX8_like_41 : decode cX8_like 41 = .ok (.iload_n 2, 1) := by decide +kernel
theorem dX8_like_42 : decode cX8_like 42 = .ok (.iaload, 1) := by decide +kernel
theorem dX8_like_43 : decode cX8_like 43 = .ok (.invokestatic 144, 3) := by decide +kernel
theorem dX8_like_46 : decode cX8_like 46 = .ok (.iadd, 1) := by decide +kernel
theorem dX8_like_47 : decode cX8_like 47 = .ok (.ireturn, 1) := by decide +kernel
theorem dX8_family_0 : decode cX8_family 0 = .ok (.aload_n 0, 1) := by decide +kernel
theorem dX8_family_1 : decode cX8_family 1 = .ok (.iload_n 1, 1) := by decide +kernel
theorem dX8_family_2 : decode cX8_family 2 = .ok (.invokevirtual 113, 3) := by decide +kernel
theorem dX8_family_5 : decode cX8_family 5 = .ok (.ifCond .ne 9, 3) := by decide +kernel
theorem dX8_family_8 : decode cX8_family 8 = .ok (.aload_n 0, 1) := by decide +kernel
theorem dX8_family_9 : decode cX8_family 9 = .ok (.iconst (-1), 1) := by decide +kernel
theorem dX8_family_10 : decode cX8_family 10 = .ok (.invokevirtual 85, 3) := by decide +kernel
theorem dX8_family_13 : decode cX8_family 13 = .ok (.ireturn, 1) := by decide +kernel
theorem dX8_family_14 : decode cX8_family 14 = .ok (.aload_n 0, 1) := by decide +kernel
theorem dX8_family_15 : decode cX8_family 15 = .ok (.getfield 74, 3) := by decide +kernel
theorem dX8_family_18 : decode cX8_family 18 = .ok (.getfield 148, 3) := by decide +kernel
theorem dX8_family_21 : decode cX8_family 21 = .ok (.iload_n 1, 1) := by decide +kernel
theorem dX8_family_22 : decode cX8_family 22 = .ok (.iaload, 1) := by decide +kernel
theorem dX8_family_23 : decode cX8_family 23 = .ok (.ireturn, 1) := by decide +kernel
theorem dX8_head_0 : decode cX8_head 0 = .ok (.aload_n 0, 1) := by decide +kernel
theorem dX8_head_1 : decode cX8_head 1 = .ok (.iload_n 1, 1) := by decide +kernel
theorem dX8_head_2 : decode cX8_head 2 = .ok (.invokevirtual 113, 3) := by decide +kernel
theorem dX8_head_5 : decode cX8_head 5 = .ok (.ifCond .ne 9, 3) := by decide +kernel
theorem dX8_head_8 : decode cX8_head 8 = .ok (.aload_n 0, 1) := by decide +kernel
theorem dX8_head_9 : decode cX8_head 9 = .ok (.iconst (-1), 1) := by decide +kernel
theorem dX8_head_10 : decode cX8_head 10 = .ok (.invokevirtual 85, 3) := by decide +kernel
theorem dX8_head_13 : decode cX8_head 13 = .ok (.ireturn, 1) := by decide +kernel
theorem dX8_head_14 : decode cX8_head 14 = .ok (.aload_n 0, 1) := by decide +kernel
theorem dX8_head_15 : decode cX8_head 15 = .ok (.getfield 74, 3) := by decide +kernel
theorem dX8_head_18 : decode cX8_head 18 = .ok (.aload_n 0, 1) := by decide +kernel
theorem dX8_head_19 : decode cX8_head 19 = .ok (.getfield 74, 3) := by decide +kernel
theorem dX8_head_22 : decode cX8_head 22 = .ok (.getfield 148, 3) := by decide +kernel
theorem dX8_head_25 : decode cX8_head 25 = .ok (.iload_n 1, 1) := by decide +kernel
theorem dX8_head_26 : decode cX8_head 26 = .ok (.iaload, 1) := by decide +kernel
theorem dX8_head_27 : decode cX8_head 27 = .ok (.invokevirtual 151, 3) := by decide +kernel
theorem dX8_head_30 : decode cX8_head 30 = .ok (.ireturn, 1) := by decide +kernel
theorem dX8_share_0 : decode cX8_share 0 = .ok (.aload_n 0, 1) := by decide +kernel
theorem dX8_share_1 : decode cX8_share 1 = .ok (.iload_n 1, 1) := by decide +kernel
theorem dX8_share_2 : decode cX8_share 2 = .ok (.invokevirtual 113, 3) := by decide +kernel
theorem dX8_share_5 : decode cX8_share 5 = .ok (.ifCond .ne 9, 3) := by decide +kernel
theorem dX8_share_8 : decode cX8_share 8 = .ok (.aload_n 0, 1) := by decide +kernel
theorem dX8_share_9 : decode cX8_share 9 = .ok (.iconst (-1), 1) := by decide +kernel
theorem dX8_share_10 : decode cX8_share 10 = .ok (.invokevirtual 85, 3) := by decide +kernel
theorem dX8_share_13 : decode cX8_share 13 = .ok (.ireturn, 1) := by decide +kernel
theorem dX8_share_14 : decode cX8_share 14 = .ok (.aload_n 0, 1) := by decide +kernel
theorem dX8_share_15 : decode cX8_share 15 = .ok (.getfield 74, 3) := by decide +kernel
theorem dX8_share_18 : decode cX8_share 18 = .ok (.iload_n 1, 1) := by decide +kernel
theorem dX8_share_19 : decode cX8_share 19 = .ok (.aload_n 0, 1) := by decide +kernel
theorem dX8_share_20 : decode cX8_share 20 = .ok (.getfield 51, 3) := by decide +kernel
theorem dX8_share_23 : decode cX8_share 23 = .ok (.iconst 1, 1) := by decide +kernel
theorem dX8_share_24 : decode cX8_share 24 = .ok (.iaload, 1) := by decide +kernel
theorem dX8_share_25 : decode cX8_share 25 = .ok (.invokevirtual 154, 3) := by decide +kernel
theorem dX8_share_28 : decode cX8_share 28 = .ok (.ireturn, 1) := by decide +kernel
theorem dX8_judge_0 : decode cX8_judge 0 = .ok (.aload_n 0, 1) := by decide +kernel
theorem dX8_judge_1 : decode cX8_judge 1 = .ok (.iload_n 1, 1) := by decide +kernel
theorem dX8_judge_2 : decode cX8_judge 2 = .ok (.invokevirtual 95, 3) := by decide +kernel
theorem dX8_judge_5 : decode cX8_judge 5 = .ok (.ifCond .ne 9, 3) := by decide +kernel
theorem dX8_judge_8 : decode cX8_judge 8 = .ok (.aload_n 0, 1) := by decide +kernel
theorem dX8_judge_9 : decode cX8_judge 9 = .ok (.iconst (-1), 1) := by decide +kernel
theorem dX8_judge_10 : decode cX8_judge 10 = .ok (.invokevirtual 85, 3) := by decide +kernel
theorem dX8_judge_13 : decode cX8_judge 13 = .ok (.ireturn, 1) := by decide +kernel
theorem dX8_judge_14 : decode cX8_judge 14 = .ok (.aload_n 0, 1) := by decide +kernel
theorem dX8_judge_15 : decode cX8_judge 15 = .ok (.getfield 10, 3) := by decide +kernel
theorem dX8_judge_18 : decode cX8_judge 18 = .ok (.getfield 157, 3) := by decide +kernel
theorem dX8_judge_21 : decode cX8_judge 21 = .ok (.iload_n 1, 1) := by decide +kernel
theorem dX8_judge_22 : decode cX8_judge 22 = .ok (.baload, 1) := by decide +kernel
theorem dX8_judge_23 : decode cX8_judge 23 = .ok (.iload_n 2, 1) := by decide +kernel
theorem dX8_judge_24 : decode cX8_judge 24 = .ok (.if_icmp .eq 7, 3) := by decide +kernel
theorem dX8_judge_27 : decode cX8_judge 27 = .ok (.iconst 1, 1) := by decide +kernel
theorem dX8_judge_28 : decode cX8_judge 28 = .ok (.goto 4, 3) := by decide +kernel
theorem dX8_judge_31 : decode cX8_judge 31 = .ok (.iconst 0, 1) := by decide +kernel
theorem dX8_judge_32 : decode cX8_judge 32 = .ok (.istore_n 3, 1) := by decide +kernel
theorem dX8_judge_33 : decode cX8_judge 33 = .ok (.aload_n 0, 1) := by decide +kernel
theorem dX8_judge_34 : decode cX8_judge 34 = .ok (.getfield 10, 3) := by decide +kernel
theorem dX8_judge_37 : decode cX8_judge 37 = .ok (.getfield 157, 3) := by decide +kernel
theorem dX8_judge_40 : decode cX8_judge 40 = .ok (.iload_n 1, 1) := by decide +kernel
theorem dX8_judge_41 : decode cX8_judge 41 = .ok (.iload_n 2, 1) := by decide +kernel
theorem dX8_judge_42 : decode cX8_judge 42 = .ok (.bastore, 1) := by decide +kernel
theorem dX8_judge_43 : decode cX8_judge 43 = .ok (.iload_n 3, 1) := by decide +kernel
theorem dX8_judge_44 : decode cX8_judge 44 = .ok (.ifCond .eq 7, 3) := by decide +kernel
theorem dX8_judge_47 : decode cX8_judge 47 = .ok (.iconst 1, 1) := by decide +kernel
theorem dX8_judge_48 : decode cX8_judge 48 = .ok (.goto 4, 3) := by decide +kernel
theorem dX8_judge_51 : decode cX8_judge 51 = .ok (.iconst 0, 1) := by decide +kernel
theorem dX8_judge_52 : decode cX8_judge 52 = .ok (.ireturn, 1) := by decide +kernel
theorem dX8_may_0 : decode cX8_may 0 = .ok (.aload_n 0, 1) := by decide +kernel
theorem dX8_may_1 : decode cX8_may 1 = .ok (.iload_n 1, 1) := by decide +kernel
theorem dX8_may_2 : decode cX8_may 2 = .ok (.invokevirtual 95, 3) := by decide +kernel
theorem dX8_may_5 : decode cX8_may 5 = .ok (.ifCond .eq 11, 3) := by decide +kernel
theorem dX8_may_8 : decode cX8_may 8 = .ok (.aload_n 0, 1) := by decide +kernel
theorem dX8_may_9 : decode cX8_may 9 = .ok (.iload_n 2, 1) := by decide +kernel
theorem dX8_may_10 : decode cX8_may 10 = .ok (.invokevirtual 113, 3) := by decide +kernel
theorem dX8_may_13 : decode cX8_may 13 = .ok (.ifCond .ne 9, 3) := by decide +kernel
theorem dX8_may_16 : decode cX8_may 16 = .ok (.aload_n 0, 1) := by decide +kernel
theorem dX8_may_17 : decode cX8_may 17 = .ok (.iconst (-1), 1) := by decide +kernel
theorem dX8_may_18 : decode cX8_may 18 = .ok (.invokevirtual 85, 3) := by decide +kernel
theorem dX8_may_21 : decode cX8_may 21 = .ok (.ireturn, 1) := by decide +kernel
theorem dX8_may_22 : decode cX8_may 22 = .ok (.aload_n 0, 1) := by decide +kernel
theorem dX8_may_23 : decode cX8_may 23 = .ok (.iload_n 2, 1) := by decide +kernel
theorem dX8_may_24 : decode cX8_may 24 = .ok (.invokevirtual 161, 3) := by decide +kernel
theorem dX8_may_27 : decode cX8_may 27 = .ok (.iload_n 1, 1) := by decide +kernel
theorem dX8_may_28 : decode cX8_may 28 = .ok (.invokestatic 120, 3) := by decide +kernel
theorem dX8_may_31 : decode cX8_may 31 = .ok (.ifCond .eq 7, 3) := by decide +kernel
theorem dX8_may_34 : decode cX8_may 34 = .ok (.iconst 1, 1) := by decide +kernel
theorem dX8_may_35 : decode cX8_may 35 = .ok (.goto 4, 3) := by decide +kernel
theorem dX8_may_38 : decode cX8_may 38 = .ok (.iconst 0, 1) := by decide +kernel
theorem dX8_may_39 : decode cX8_may 39 = .ok (.ireturn, 1) := by decide +kernel
theorem dX8_judgeOf_0 : decode cX8_judgeOf 0 = .ok (.aload_n 0, 1) := by decide +kernel
theorem dX8_judgeOf_1 : decode cX8_judgeOf 1 = .ok (.iload_n 1, 1) := by decide +kernel
theorem dX8_judgeOf_2 : decode cX8_judgeOf 2 = .ok (.invokevirtual 113, 3) := by decide +kernel
theorem dX8_judgeOf_5 : decode cX8_judgeOf 5 = .ok (.ifCond .eq 12, 3) := by decide +kernel
theorem dX8_judgeOf_8 : decode cX8_judgeOf 8 = .ok (.iload_n 2, 1) := by decide +kernel
theorem dX8_judgeOf_9 : decode cX8_judgeOf 9 = .ok (.ifCond .lt 8, 3) := by decide +kernel
theorem dX8_judgeOf_12 : decode cX8_judgeOf 12 = .ok (.iload_n 2, 1) := by decide +kernel
theorem dX8_judgeOf_13 : decode cX8_judgeOf 13 = .ok (.iconst 1, 1) := by decide +kernel
theorem dX8_judgeOf_14 : decode cX8_judgeOf 14 = .ok (.if_icmp .le 9, 3) := by decide +kernel
theorem dX8_judgeOf_17 : decode cX8_judgeOf 17 = .ok (.aload_n 0, 1) := by decide +kernel
theorem dX8_judgeOf_18 : decode cX8_judgeOf 18 = .ok (.iconst (-1), 1) := by decide +kernel
theorem dX8_judgeOf_19 : decode cX8_judgeOf 19 = .ok (.invokevirtual 85, 3) := by decide +kernel
theorem dX8_judgeOf_22 : decode cX8_judgeOf 22 = .ok (.ireturn, 1) := by decide +kernel
theorem dX8_judgeOf_23 : decode cX8_judgeOf 23 = .ok (.aload_n 0, 1) := by decide +kernel
theorem dX8_judgeOf_24 : decode cX8_judgeOf 24 = .ok (.iload_n 1, 1) := by decide +kernel
theorem dX8_judgeOf_25 : decode cX8_judgeOf 25 = .ok (.invokevirtual 161, 3) := by decide +kernel
theorem dX8_judgeOf_28 : decode cX8_judgeOf 28 = .ok (.lstore_n 3, 1) := by decide +kernel
theorem dX8_judgeOf_29 : decode cX8_judgeOf 29 = .ok (.aload_n 0, 1) := by decide +kernel
theorem dX8_judgeOf_30 : decode cX8_judgeOf 30 = .ok (.getfield 10, 3) := by decide +kernel
theorem dX8_judgeOf_33 : decode cX8_judgeOf 33 = .ok (.lload_n 3, 1) := by decide +kernel
theorem dX8_judgeOf_34 : decode cX8_judgeOf 34 = .ok (.invokevirtual 164, 3) := by decide +kernel
theorem dX8_judgeOf_37 : decode cX8_judgeOf 37 = .ok (.istore 5, 2) := by decide +kernel
theorem dX8_judgeOf_39 : decode cX8_judgeOf 39 = .ok (.aload_n 0, 1) := by decide +kernel
theorem dX8_judgeOf_40 : decode cX8_judgeOf 40 = .ok (.getfield 10, 3) := by decide +kernel
theorem dX8_judgeOf_43 : decode cX8_judgeOf 43 = .ok (.lload_n 3, 1) := by decide +kernel
theorem dX8_judgeOf_44 : decode cX8_judgeOf 44 = .ok (.iload 5, 2) := by decide +kernel
theorem dX8_judgeOf_46 : decode cX8_judgeOf 46 = .ok (.invokestatic 168, 3) := by decide +kernel
theorem dX8_judgeOf_49 : decode cX8_judgeOf 49 = .ok (.invokevirtual 164, 3) := by decide +kernel
theorem dX8_judgeOf_52 : decode cX8_judgeOf 52 = .ok (.istore 6, 2) := by decide +kernel
theorem dX8_judgeOf_54 : decode cX8_judgeOf 54 = .ok (.iload 6, 2) := by decide +kernel
theorem dX8_judgeOf_56 : decode cX8_judgeOf 56 = .ok (.bipush (-9), 2) := by decide +kernel
theorem dX8_judgeOf_58 : decode cX8_judgeOf 58 = .ok (.if_icmp .ne 6, 3) := by decide +kernel
theorem dX8_judgeOf_61 : decode cX8_judgeOf 61 = .ok (.bipush (-9), 2) := by decide +kernel
theorem dX8_judgeOf_63 : decode cX8_judgeOf 63 = .ok (.ireturn, 1) := by decide +kernel
theorem dX8_judgeOf_64 : decode cX8_judgeOf 64 = .ok (.iload_n 2, 1) := by decide +kernel
theorem dX8_judgeOf_65 : decode cX8_judgeOf 65 = .ok (.ifCond .ne 8, 3) := by decide +kernel
theorem dX8_judgeOf_68 : decode cX8_judgeOf 68 = .ok (.iload 5, 2) := by decide +kernel
theorem dX8_judgeOf_70 : decode cX8_judgeOf 70 = .ok (.goto 5, 3) := by decide +kernel
theorem dX8_judgeOf_73 : decode cX8_judgeOf 73 = .ok (.iload 6, 2) := by decide +kernel
theorem dX8_judgeOf_75 : decode cX8_judgeOf 75 = .ok (.ireturn, 1) := by decide +kernel
theorem dX8_decide_0 : decode cX8_decide 0 = .ok (.aload_n 0, 1) := by decide +kernel
theorem dX8_decide_1 : decode cX8_decide 1 = .ok (.iload_n 1, 1) := by decide +kernel
theorem dX8_decide_2 : decode cX8_decide 2 = .ok (.invokevirtual 113, 3) := by decide +kernel
theorem dX8_decide_5 : decode cX8_decide 5 = .ok (.ifCond .ne 9, 3) := by decide +kernel
theorem dX8_decide_8 : decode cX8_decide 8 = .ok (.aload_n 0, 1) := by decide +kernel
theorem dX8_decide_9 : decode cX8_decide 9 = .ok (.iconst (-1), 1) := by decide +kernel
theorem dX8_decide_10 : decode cX8_decide 10 = .ok (.invokevirtual 85, 3) := by decide +kernel
theorem dX8_decide_13 : decode cX8_decide 13 = .ok (.ireturn, 1) := by decide +kernel
theorem dX8_decide_14 : decode cX8_decide 14 = .ok (.aload_n 0, 1) := by decide +kernel
theorem dX8_decide_15 : decode cX8_decide 15 = .ok (.iload_n 1, 1) := by decide +kernel
theorem dX8_decide_16 : decode cX8_decide 16 = .ok (.invokevirtual 161, 3) := by decide +kernel
theorem dX8_decide_19 : decode cX8_decide 19 = .ok (.lstore 5, 2) := by decide +kernel
theorem dX8_decide_21 : decode cX8_decide 21 = .ok (.aload_n 0, 1) := by decide +kernel
theorem dX8_decide_22 : decode cX8_decide 22 = .ok (.getfield 10, 3) := by decide +kernel
theorem dX8_decide_25 : decode cX8_decide 25 = .ok (.lload 5, 2) := by decide +kernel
theorem dX8_decide_27 : decode cX8_decide 27 = .ok (.invokevirtual 164, 3) := by decide +kernel
theorem dX8_decide_30 : decode cX8_decide 30 = .ok (.istore 7, 2) := by decide +kernel
theorem dX8_decide_32 : decode cX8_decide 32 = .ok (.aload_n 0, 1) := by decide +kernel
theorem dX8_decide_33 : decode cX8_decide 33 = .ok (.getfield 10, 3) := by decide +kernel
theorem dX8_decide_36 : decode cX8_decide 36 = .ok (.lload 5, 2) := by decide +kernel
theorem dX8_decide_38 : decode cX8_decide 38 = .ok (.iload 7, 2) := by decide +kernel
theorem dX8_decide_40 : decode cX8_decide 40 = .ok (.invokestatic 168, 3) := by decide +kernel
theorem dX8_decide_43 : decode cX8_decide 43 = .ok (.invokevirtual 164, 3) := by decide +kernel
theorem dX8_decide_46 : decode cX8_decide 46 = .ok (.istore 8, 2) := by decide +kernel
theorem dX8_decide_48 : decode cX8_decide 48 = .ok (.aload_n 0, 1) := by decide +kernel
theorem dX8_decide_49 : decode cX8_decide 49 = .ok (.getfield 65, 3) := by decide +kernel
theorem dX8_decide_52 : decode cX8_decide 52 = .ok (.getfield 172, 3) := by decide +kernel
theorem dX8_decide_55 : decode cX8_decide 55 = .ok (.iload_n 1, 1) := by decide +kernel
theorem dX8_decide_56 : decode cX8_decide 56 = .ok (.iaload, 1) := by decide +kernel
theorem dX8_decide_57 : decode cX8_decide 57 = .ok (.ifCond .ne 17, 3) := by decide +kernel
theorem dX8_decide_60 : decode cX8_decide 60 = .ok (.iload 7, 2) := by decide +kernel
theorem dX8_decide_62 : decode cX8_decide 62 = .ok (.bipush (-9), 2) := by decide +kernel
theorem dX8_decide_64 : decode cX8_decide 64 = .ok (.if_icmp .eq 10, 3) := by decide +kernel
theorem dX8_decide_67 : decode cX8_decide 67 = .ok (.iload 8, 2) := by decide +kernel
theorem dX8_decide_69 : decode cX8_decide 69 = .ok (.bipush (-9), 2) := by decide +kernel
theorem dX8_decide_71 : decode cX8_decide 71 = .ok (.if_icmp .ne 10, 3) := by decide +kernel
theorem dX8_decide_74 : decode cX8_decide 74 = .ok (.aload_n 0, 1) := by decide +kernel
theorem dX8_decide_75 : decode cX8_decide 75 = .ok (.bipush (-3), 2) := by decide +kernel
theorem dX8_decide_77 : decode cX8_decide 77 = .ok (.invokevirtual 85, 3) := by decide +kernel
theorem dX8_decide_80 : decode cX8_decide 80 = .ok (.ireturn, 1) := by decide +kernel
theorem dX8_decide_81 : decode cX8_decide 81 = .ok (.aload_n 0, 1) := by decide +kernel
theorem dX8_decide_82 : decode cX8_decide 82 = .ok (.getfield 10, 3) := by decide +kernel
theorem dX8_decide_85 : decode cX8_decide 85 = .ok (.getfield 175, 3) := by decide +kernel
theorem dX8_decide_88 : decode cX8_decide 88 = .ok (.iload 7, 2) := by decide +kernel
theorem dX8_decide_90 : decode cX8_decide 90 = .ok (.dup2, 1) := by decide +kernel
theorem dX8_decide_91 : decode cX8_decide 91 = .ok (.iaload, 1) := by decide +kernel
theorem dX8_decide_92 : decode cX8_decide 92 = .ok (.iconst 1, 1) := by decide +kernel
theorem dX8_decide_93 : decode cX8_decide 93 = .ok (.iadd, 1) := by decide +kernel
theorem dX8_decide_94 : decode cX8_decide 94 = .ok (.iastore, 1) := by decide +kernel
theorem dX8_decide_95 : decode cX8_decide 95 = .ok (.aload_n 0, 1) := by decide +kernel
theorem dX8_decide_96 : decode cX8_decide 96 = .ok (.getfield 10, 3) := by decide +kernel
theorem dX8_decide_99 : decode cX8_decide 99 = .ok (.getfield 175, 3) := by decide +kernel
theorem dX8_decide_102 : decode cX8_decide 102 = .ok (.iload 8, 2) := by decide +kernel
theorem dX8_decide_104 : decode cX8_decide 104 = .ok (.dup2, 1) := by decide +kernel
theorem dX8_decide_105 : decode cX8_decide 105 = .ok (.iaload, 1) := by decide +kernel
theorem dX8_decide_106 : decode cX8_decide 106 = .ok (.iconst 1, 1) := by decide +kernel
theorem dX8_decide_107 : decode cX8_decide 107 = .ok (.iadd, 1) := by decide +kernel
theorem dX8_decide_108 : decode cX8_decide 108 = .ok (.iastore, 1) := by decide +kernel
theorem dX8_decide_109 : decode cX8_decide 109 = .ok (.iload_n 2, 1) := by decide +kernel
theorem dX8_decide_110 : decode cX8_decide 110 = .ok (.istore 9, 2) := by decide +kernel
theorem dX8_decide_112 : decode cX8_decide 112 = .ok (.iload_n 2, 1) := by decide +kernel
theorem dX8_decide_113 : decode cX8_decide 113 = .ok (.iload_n 3, 1) := by decide +kernel
theorem dX8_decide_114 : decode cX8_decide 114 = .ok (.if_icmp .eq 34, 3) := by decide +kernel
theorem dX8_decide_117 : decode cX8_decide 117 = .ok (.aload_n 0, 1) := by decide +kernel
theorem dX8_decide_118 : decode cX8_decide 118 = .ok (.lload 5, 2) := by decide +kernel
theorem dX8_decide_120 : decode cX8_decide 120 = .ok (.iload 7, 2) := by decide +kernel
theorem dX8_decide_122 : decode cX8_decide 122 = .ok (.invokestatic 168, 3) := by decide +kernel
theorem dX8_decide_125 : decode cX8_decide 125 = .ok (.iload 8, 2) := by decide +kernel
theorem dX8_decide_127 : decode cX8_decide 127 = .ok (.invokestatic 168, 3) := by decide +kernel
theorem dX8_decide_130 : decode cX8_decide 130 = .ok (.invokevirtual 178, 3) := by decide +kernel
theorem dX8_decide_133 : decode cX8_decide 133 = .ok (.ifCond .eq 12, 3) := by decide +kernel
theorem dX8_decide_136 : decode cX8_decide 136 = .ok (.iload 4, 2) := by decide +kernel
theorem dX8_decide_138 : decode cX8_decide 138 = .ok (.ifCond .eq 7, 3) := by decide +kernel
theorem dX8_decide_141 : decode cX8_decide 141 = .ok (.iconst 1, 1) := by decide +kernel
theorem dX8_decide_142 : decode cX8_decide 142 = .ok (.goto 4, 3) := by decide +kernel
theorem dX8_decide_145 : decode cX8_decide 145 = .ok (.iconst 0, 1) := by decide +kernel
theorem dX8_decide_146 : decode cX8_decide 146 = .ok (.istore 9, 2) := by decide +kernel
theorem dX8_decide_148 : decode cX8_decide 148 = .ok (.iload 9, 2) := by decide +kernel
theorem dX8_decide_150 : decode cX8_decide 150 = .ok (.ifCond .eq 19, 3) := by decide +kernel
theorem dX8_decide_153 : decode cX8_decide 153 = .ok (.aload_n 0, 1) := by decide +kernel
theorem dX8_decide_154 : decode cX8_decide 154 = .ok (.aload_n 0, 1) := by decide +kernel
theorem dX8_decide_155 : decode cX8_decide 155 = .ok (.getfield 74, 3) := by decide +kernel
theorem dX8_decide_158 : decode cX8_decide 158 = .ok (.getfield 148, 3) := by decide +kernel
theorem dX8_decide_161 : decode cX8_decide 161 = .ok (.iload_n 1, 1) := by decide +kernel
theorem dX8_decide_162 : decode cX8_decide 162 = .ok (.iaload, 1) := by decide +kernel
theorem dX8_decide_163 : decode cX8_decide 163 = .ok (.invokevirtual 182, 3) := by decide +kernel
theorem dX8_decide_166 : decode cX8_decide 166 = .ok (.goto 10, 3) := by decide +kernel
theorem dX8_decide_169 : decode cX8_decide 169 = .ok (.aload_n 0, 1) := by decide +kernel
theorem dX8_decide_170 : decode cX8_decide 170 = .ok (.iload_n 1, 1) := by decide +kernel
theorem dX8_decide_171 : decode cX8_decide 171 = .ok (.iconst 2, 1) := by decide +kernel
theorem dX8_decide_172 : decode cX8_decide 172 = .ok (.invokevirtual 185, 3) := by decide +kernel
theorem dX8_decide_175 : decode cX8_decide 175 = .ok (.pop, 1) := by decide +kernel
theorem dX8_decide_176 : decode cX8_decide 176 = .ok (.aload_n 0, 1) := by decide +kernel
theorem dX8_decide_177 : decode cX8_decide 177 = .ok (.getfield 65, 3) := by decide +kernel
theorem dX8_decide_180 : decode cX8_decide 180 = .ok (.getfield 172, 3) := by decide +kernel
theorem dX8_decide_183 : decode cX8_decide 183 = .ok (.iload_n 1, 1) := by decide +kernel
theorem dX8_decide_184 : decode cX8_decide 184 = .ok (.iaload, 1) := by decide +kernel
theorem dX8_decide_185 : decode cX8_decide 185 = .ok (.ireturn, 1) := by decide +kernel
theorem dX8_days_0 : decode cX8_days 0 = .ok (.iload_n 1, 1) := by decide +kernel
theorem dX8_days_1 : decode cX8_days 1 = .ok (.iconst 1, 1) := by decide +kernel
theorem dX8_days_2 : decode cX8_days 2 = .ok (.if_icmp .ge 10, 3) := by decide +kernel
theorem dX8_days_5 : decode cX8_days 5 = .ok (.aload_n 0, 1) := by decide +kernel
theorem dX8_days_6 : decode cX8_days 6 = .ok (.bipush (-4), 2) := by decide +kernel
theorem dX8_days_8 : decode cX8_days 8 = .ok (.invokevirtual 85, 3) := by decide +kernel
theorem dX8_days_11 : decode cX8_days 11 = .ok (.ireturn, 1) := by decide +kernel
theorem dX8_days_12 : decode cX8_days 12 = .ok (.iload_n 1, 1) := by decide +kernel
theorem dX8_days_13 : decode cX8_days 13 = .ok (.sipush 3000, 3) := by decide +kernel
theorem dX8_days_16 : decode cX8_days 16 = .ok (.aload_n 0, 1) := by decide +kernel
theorem dX8_days_17 : decode cX8_days 17 = .ok (.getfield 58, 3) := by decide +kernel
theorem dX8_days_20 : decode cX8_days 20 = .ok (.isub, 1) := by decide +kernel
theorem dX8_days_21 : decode cX8_days 21 = .ok (.if_icmp .le 10, 3) := by decide +kernel
theorem dX8_days_24 : decode cX8_days 24 = .ok (.aload_n 0, 1) := by decide +kernel
theorem dX8_days_25 : decode cX8_days 25 = .ok (.bipush (-6), 2) := by decide +kernel
theorem dX8_days_27 : decode cX8_days 27 = .ok (.invokevirtual 85, 3) := by decide +kernel
theorem dX8_days_30 : decode cX8_days 30 = .ok (.ireturn, 1) := by decide +kernel
theorem dX8_days_31 : decode cX8_days 31 = .ok (.aload_n 0, 1) := by decide +kernel
theorem dX8_days_32 : decode cX8_days 32 = .ok (.getfield 58, 3) := by decide +kernel
theorem dX8_days_35 : decode cX8_days 35 = .ok (.istore_n 2, 1) := by decide +kernel
theorem dX8_days_36 : decode cX8_days 36 = .ok (.aload_n 0, 1) := by decide +kernel
theorem dX8_days_37 : decode cX8_days 37 = .ok (.dup, 1) := by decide +kernel
theorem dX8_days_38 : decode cX8_days 38 = .ok (.getfield 58, 3) := by decide +kernel
theorem dX8_days_41 : decode cX8_days 41 = .ok (.iload_n 1, 1) := by decide +kernel
theorem dX8_days_42 : decode cX8_days 42 = .ok (.iadd, 1) := by decide +kernel
theorem dX8_days_43 : decode cX8_days 43 = .ok (.putfield 58, 3) := by decide +kernel
theorem dX8_days_46 : decode cX8_days 46 = .ok (.iconst 0, 1) := by decide +kernel
theorem dX8_days_47 : decode cX8_days 47 = .ok (.istore_n 3, 1) := by decide +kernel
theorem dX8_days_48 : decode cX8_days 48 = .ok (.iconst 0, 1) := by decide +kernel
theorem dX8_days_49 : decode cX8_days 49 = .ok (.istore 4, 2) := by decide +kernel
theorem dX8_days_51 : decode cX8_days 51 = .ok (.iload 4, 2) := by decide +kernel
theorem dX8_days_53 : decode cX8_days 53 = .ok (.aload_n 0, 1) := by decide +kernel
theorem dX8_days_54 : decode cX8_days 54 = .ok (.getfield 65, 3) := by decide +kernel
theorem dX8_days_57 : decode cX8_days 57 = .ok (.getfield 105, 3) := by decide +kernel
theorem dX8_days_60 : decode cX8_days 60 = .ok (.if_icmp .ge 33, 3) := by decide +kernel
theorem dX8_days_63 : decode cX8_days 63 = .ok (.aload_n 0, 1) := by decide +kernel
theorem dX8_days_64 : decode cX8_days 64 = .ok (.getfield 65, 3) := by decide +kernel
theorem dX8_days_67 : decode cX8_days 67 = .ok (.getfield 172, 3) := by decide +kernel
theorem dX8_days_70 : decode cX8_days 70 = .ok (.iload 4, 2) := by decide +kernel
theorem dX8_days_72 : decode cX8_days 72 = .ok (.iaload, 1) := by decide +kernel
theorem dX8_days_73 : decode cX8_days 73 = .ok (.iconst 1, 1) := by decide +kernel
theorem dX8_days_74 : decode cX8_days 74 = .ok (.if_icmp .ne 13, 3) := by decide +kernel
theorem dX8_days_77 : decode cX8_days 77 = .ok (.iload_n 3, 1) := by decide +kernel
theorem dX8_days_78 : decode cX8_days 78 = .ok (.aload_n 0, 1) := by decide +kernel
theorem dX8_days_79 : decode cX8_days 79 = .ok (.iload_n 2, 1) := by decide +kernel
theorem dX8_days_80 : decode cX8_days 80 = .ok (.iload 4, 2) := by decide +kernel
theorem dX8_days_82 : decode cX8_days 82 = .ok (.invokevirtual 188, 3) := by decide +kernel
theorem dX8_days_85 : decode cX8_days 85 = .ok (.iadd, 1) := by decide +kernel
theorem dX8_days_86 : decode cX8_days 86 = .ok (.istore_n 3, 1) := by decide +kernel
theorem dX8_days_87 : decode cX8_days 87 = .ok (.iinc 4 1, 3) := by decide +kernel
theorem dX8_days_90 : decode cX8_days 90 = .ok (.goto (-39), 3) := by decide +kernel
theorem dX8_days_93 : decode cX8_days 93 = .ok (.iload_n 3, 1) := by decide +kernel
theorem dX8_days_94 : decode cX8_days 94 = .ok (.ireturn, 1) := by decide +kernel
theorem dX8_bench_0 : decode cX8_bench 0 = .ok (.iload_n 1, 1) := by decide +kernel
theorem dX8_bench_1 : decode cX8_bench 1 = .ok (.invokestatic 191, 3) := by decide +kernel
theorem dX8_bench_4 : decode cX8_bench 4 = .ok (.ifCond .eq 14, 3) := by decide +kernel
theorem dX8_bench_7 : decode cX8_bench 7 = .ok (.iload_n 2, 1) := by decide +kernel
theorem dX8_bench_8 : decode cX8_bench 8 = .ok (.ifCond .ne 16, 3) := by decide +kernel
theorem dX8_bench_11 : decode cX8_bench 11 = .ok (.iload_n 3, 1) := by decide +kernel
theorem dX8_bench_12 : decode cX8_bench 12 = .ok (.invokestatic 81, 3) := by decide +kernel
theorem dX8_bench_15 : decode cX8_bench 15 = .ok (.ifCond .ne 9, 3) := by decide +kernel
theorem dX8_bench_18 : decode cX8_bench 18 = .ok (.aload_n 0, 1) := by decide +kernel
theorem dX8_bench_19 : decode cX8_bench 19 = .ok (.iconst (-1), 1) := by decide +kernel
theorem dX8_bench_20 : decode cX8_bench 20 = .ok (.invokevirtual 85, 3) := by decide +kernel
theorem dX8_bench_23 : decode cX8_bench 23 = .ok (.ireturn, 1) := by decide +kernel
theorem dX8_bench_24 : decode cX8_bench 24 = .ok (.iload_n 2, 1) := by decide +kernel
theorem dX8_bench_25 : decode cX8_bench 25 = .ok (.ifCond .eq 15, 3) := by decide +kernel
theorem dX8_bench_28 : decode cX8_bench 28 = .ok (.iload_n 2, 1) := by decide +kernel
theorem dX8_bench_29 : decode cX8_bench 29 = .ok (.iconst 1, 1) := by decide +kernel
theorem dX8_bench_30 : decode cX8_bench 30 = .ok (.if_icmp .eq 10, 3) := by decide +kernel
theorem dX8_bench_33 : decode cX8_bench 33 = .ok (.aload_n 0, 1) := by decide +kernel
theorem dX8_bench_34 : decode cX8_bench 34 = .ok (.bipush (-2), 2) := by decide +kernel
theorem dX8_bench_36 : decode cX8_bench 36 = .ok (.invokevirtual 85, 3) := by decide +kernel
theorem dX8_bench_39 : decode cX8_bench 39 = .ok (.ireturn, 1) := by decide +kernel
theorem dX8_bench_40 : decode cX8_bench 40 = .ok (.iload_n 3, 1) := by decide +kernel
theorem dX8_bench_41 : decode cX8_bench 41 = .ok (.ifCond .ge 10, 3) := by decide +kernel
theorem dX8_bench_44 : decode cX8_bench 44 = .ok (.aload_n 0, 1) := by decide +kernel
theorem dX8_bench_45 : decode cX8_bench 45 = .ok (.bipush (-4), 2) := by decide +kernel
theorem dX8_bench_47 : decode cX8_bench 47 = .ok (.invokevirtual 85, 3) := by decide +kernel
theorem dX8_bench_50 : decode cX8_bench 50 = .ok (.ireturn, 1) := by decide +kernel
theorem dX8_bench_51 : decode cX8_bench 51 = .ok (.iload_n 3, 1) := by decide +kernel
theorem dX8_bench_52 : decode cX8_bench 52 = .ok (.sipush 10000, 3) := by decide +kernel
theorem dX8_bench_55 : decode cX8_bench 55 = .ok (.if_icmp .le 10, 3) := by decide +kernel
theorem dX8_bench_58 : decode cX8_bench 58 = .ok (.aload_n 0, 1) := by decide +kernel
theorem dX8_bench_59 : decode cX8_bench 59 = .ok (.bipush (-6), 2) := by decide +kernel
theorem dX8_bench_61 : decode cX8_bench 61 = .ok (.invokevirtual 85, 3) := by decide +kernel
theorem dX8_bench_64 : decode cX8_bench 64 = .ok (.ireturn, 1) := by decide +kernel
theorem dX8_bench_65 : decode cX8_bench 65 = .ok (.iload_n 2, 1) := by decide +kernel
theorem dX8_bench_66 : decode cX8_bench 66 = .ok (.ifCond .ne 13, 3) := by decide +kernel
theorem dX8_bench_69 : decode cX8_bench 69 = .ok (.aload_n 0, 1) := by decide +kernel
theorem dX8_bench_70 : decode cX8_bench 70 = .ok (.getfield 19, 3) := by decide +kernel
theorem dX8_bench_73 : decode cX8_bench 73 = .ok (.getfield 194, 3) := by decide +kernel
theorem dX8_bench_76 : decode cX8_bench 76 = .ok (.goto 10, 3) := by decide +kernel
theorem dX8_bench_79 : decode cX8_bench 79 = .ok (.aload_n 0, 1) := by decide +kernel
theorem dX8_bench_80 : decode cX8_bench 80 = .ok (.getfield 19, 3) := by decide +kernel
theorem dX8_bench_83 : decode cX8_bench 83 = .ok (.getfield 197, 3) := by decide +kernel
theorem dX8_bench_86 : decode cX8_bench 86 = .ok (.astore 4, 2) := by decide +kernel
theorem dX8_bench_88 : decode cX8_bench 88 = .ok (.aload 4, 2) := by decide +kernel
theorem dX8_bench_90 : decode cX8_bench 90 = .ok (.iload_n 1, 1) := by decide +kernel
theorem dX8_bench_91 : decode cX8_bench 91 = .ok (.iaload, 1) := by decide +kernel
theorem dX8_bench_92 : decode cX8_bench 92 = .ok (.istore 5, 2) := by decide +kernel
theorem dX8_bench_94 : decode cX8_bench 94 = .ok (.aload 4, 2) := by decide +kernel
theorem dX8_bench_96 : decode cX8_bench 96 = .ok (.iload_n 1, 1) := by decide +kernel
theorem dX8_bench_97 : decode cX8_bench 97 = .ok (.iload_n 3, 1) := by decide +kernel
theorem dX8_bench_98 : decode cX8_bench 98 = .ok (.iastore, 1) := by decide +kernel
theorem dX8_bench_99 : decode cX8_bench 99 = .ok (.iload 5, 2) := by decide +kernel
theorem dX8_bench_101 : decode cX8_bench 101 = .ok (.ireturn, 1) := by decide +kernel
theorem dX8_measure_0 : decode cX8_measure 0 = .ok (.iload_n 1, 1) := by decide +kernel
theorem dX8_measure_1 : decode cX8_measure 1 = .ok (.invokestatic 191, 3) := by decide +kernel
theorem dX8_measure_4 : decode cX8_measure 4 = .ok (.ifCond .eq 11, 3) := by decide +kernel
theorem dX8_measure_7 : decode cX8_measure 7 = .ok (.aload_n 0, 1) := by decide +kernel
theorem dX8_measure_8 : decode cX8_measure 8 = .ok (.iload_n 2, 1) := by decide +kernel
theorem dX8_measure_9 : decode cX8_measure 9 = .ok (.invokevirtual 113, 3) := by decide +kernel
theorem dX8_measure_12 : decode cX8_measure 12 = .ok (.ifCond .ne 9, 3) := by decide +kernel
theorem dX8_measure_15 : decode cX8_measure 15 = .ok (.aload_n 0, 1) := by decide +kernel
theorem dX8_measure_16 : decode cX8_measure 16 = .ok (.iconst (-1), 1) := by decide +kernel
theorem dX8_measure_17 : decode cX8_measure 17 = .ok (.invokevirtual 85, 3) := by decide +kernel
theorem dX8_measure_20 : decode cX8_measure 20 = .ok (.ireturn, 1) := by decide +kernel
theorem dX8_measure_21 : decode cX8_measure 21 = .ok (.aload_n 0, 1) := by decide +kernel
theorem dX8_measure_22 : decode cX8_measure 22 = .ok (.getfield 65, 3) := by decide +kernel
theorem dX8_measure_25 : decode cX8_measure 25 = .ok (.getfield 200, 3) := by decide +kernel
theorem dX8_measure_28 : decode cX8_measure 28 = .ok (.iload_n 2, 1) := by decide +kernel
theorem dX8_measure_29 : decode cX8_measure 29 = .ok (.iaload, 1) := by decide +kernel
theorem dX8_measure_30 : decode cX8_measure 30 = .ok (.aload_n 0, 1) := by decide +kernel
theorem dX8_measure_31 : decode cX8_measure 31 = .ok (.getfield 19, 3) := by decide +kernel
theorem dX8_measure_34 : decode cX8_measure 34 = .ok (.getfield 194, 3) := by decide +kernel
theorem dX8_measure_37 : decode cX8_measure 37 = .ok (.iload_n 1, 1) := by decide +kernel
theorem dX8_measure_38 : decode cX8_measure 38 = .ok (.iaload, 1) := by decide +kernel
theorem dX8_measure_39 : decode cX8_measure 39 = .ok (.if_icmp .eq 10, 3) := by decide +kernel
theorem dX8_measure_42 : decode cX8_measure 42 = .ok (.aload_n 0, 1) := by decide +kernel
theorem dX8_measure_43 : decode cX8_measure 43 = .ok (.bipush (-3), 2) := by decide +kernel
theorem dX8_measure_45 : decode cX8_measure 45 = .ok (.invokevirtual 85, 3) := by decide +kernel
theorem dX8_measure_48 : decode cX8_measure 48 = .ok (.ireturn, 1) := by decide +kernel
theorem dX8_measure_49 : decode cX8_measure 49 = .ok (.iload 4, 2) := by decide +kernel
theorem dX8_measure_51 : decode cX8_measure 51 = .ok (.ifCond .ge 10, 3) := by decide +kernel
theorem dX8_measure_54 : decode cX8_measure 54 = .ok (.aload_n 0, 1) := by decide +kernel
theorem dX8_measure_55 : decode cX8_measure 55 = .ok (.bipush (-4), 2) := by decide +kernel
theorem dX8_measure_57 : decode cX8_measure 57 = .ok (.invokevirtual 85, 3) := by decide +kernel
theorem dX8_measure_60 : decode cX8_measure 60 = .ok (.ireturn, 1) := by decide +kernel
theorem dX8_measure_61 : decode cX8_measure 61 = .ok (.iload 4, 2) := by decide +kernel
theorem dX8_measure_63 : decode cX8_measure 63 = .ok (.sipush 9999, 3) := by decide +kernel
theorem dX8_measure_66 : decode cX8_measure 66 = .ok (.if_icmp .gt 16, 3) := by decide +kernel
theorem dX8_measure_69 : decode cX8_measure 69 = .ok (.aload_n 0, 1) := by decide +kernel
theorem dX8_measure_70 : decode cX8_measure 70 = .ok (.getfield 26, 3) := by decide +kernel
theorem dX8_measure_73 : decode cX8_measure 73 = .ok (.getfield 201, 3) := by decide +kernel
theorem dX8_measure_76 : decode cX8_measure 76 = .ok (.sipush 200, 3) := by decide +kernel
theorem dX8_measure_79 : decode cX8_measure 79 = .ok (.if_icmp .lt 10, 3) := by decide +kernel
theorem dX8_measure_82 : decode cX8_measure 82 = .ok (.aload_n 0, 1) := by decide +kernel
theorem dX8_measure_83 : decode cX8_measure 83 = .ok (.bipush (-6), 2) := by decide +kernel
theorem dX8_measure_85 : decode cX8_measure 85 = .ok (.invokevirtual 85, 3) := by decide +kernel
theorem dX8_measure_88 : decode cX8_measure 88 = .ok (.ireturn, 1) := by decide +kernel
theorem dX8_measure_89 : decode cX8_measure 89 = .ok (.aload_n 0, 1) := by decide +kernel
theorem dX8_measure_90 : decode cX8_measure 90 = .ok (.getfield 26, 3) := by decide +kernel
theorem dX8_measure_93 : decode cX8_measure 93 = .ok (.iload_n 1, 1) := by decide +kernel
theorem dX8_measure_94 : decode cX8_measure 94 = .ok (.iload_n 2, 1) := by decide +kernel
theorem dX8_measure_95 : decode cX8_measure 95 = .ok (.iload_n 3, 1) := by decide +kernel
theorem dX8_measure_96 : decode cX8_measure 96 = .ok (.iload 4, 2) := by decide +kernel
theorem dX8_measure_98 : decode cX8_measure 98 = .ok (.invokevirtual 202, 3) := by decide +kernel
theorem dX8_measure_101 : decode cX8_measure 101 = .ok (.aload_n 0, 1) := by decide +kernel
theorem dX8_measure_102 : decode cX8_measure 102 = .ok (.getfield 26, 3) := by decide +kernel
theorem dX8_measure_105 : decode cX8_measure 105 = .ok (.getfield 201, 3) := by decide +kernel
theorem dX8_measure_108 : decode cX8_measure 108 = .ok (.ireturn, 1) := by decide +kernel
theorem dX8_saved_0 : decode cX8_saved 0 = .ok (.iload_n 1, 1) := by decide +kernel
theorem dX8_saved_1 : decode cX8_saved 1 = .ok (.invokestatic 191, 3) := by decide +kernel
theorem dX8_saved_4 : decode cX8_saved 4 = .ok (.ifCond .eq 11, 3) := by decide +kernel
theorem dX8_saved_7 : decode cX8_saved 7 = .ok (.aload_n 0, 1) := by decide +kernel
theorem dX8_saved_8 : decode cX8_saved 8 = .ok (.iload_n 2, 1) := by decide +kernel
theorem dX8_saved_9 : decode cX8_saved 9 = .ok (.invokevirtual 113, 3) := by decide +kernel
theorem dX8_saved_12 : decode cX8_saved 12 = .ok (.ifCond .ne 9, 3) := by decide +kernel
theorem dX8_saved_15 : decode cX8_saved 15 = .ok (.aload_n 0, 1) := by decide +kernel
theorem dX8_saved_16 : decode cX8_saved 16 = .ok (.iconst (-1), 1) := by decide +kernel
theorem dX8_saved_17 : decode cX8_saved 17 = .ok (.invokevirtual 85, 3) := by decide +kernel
theorem dX8_saved_20 : decode cX8_saved 20 = .ok (.ireturn, 1) := by decide +kernel
theorem dX8_saved_21 : decode cX8_saved 21 = .ok (.iload_n 3, 1) := by decide +kernel
theorem dX8_saved_22 : decode cX8_saved 22 = .ok (.ifCond .eq 15, 3) := by decide +kernel
theorem dX8_saved_25 : decode cX8_saved 25 = .ok (.iload_n 3, 1) := by decide +kernel
theorem dX8_saved_26 : decode cX8_saved 26 = .ok (.iconst 1, 1) := by decide +kernel
theorem dX8_saved_27 : decode cX8_saved 27 = .ok (.if_icmp .eq 10, 3) := by decide +kernel
theorem dX8_saved_30 : decode cX8_saved 30 = .ok (.aload_n 0, 1) := by decide +kernel
theorem dX8_saved_31 : decode cX8_saved 31 = .ok (.bipush (-2), 2) := by decide +kernel
theorem dX8_saved_33 : decode cX8_saved 33 = .ok (.invokevirtual 85, 3) := by decide +kernel
theorem dX8_saved_36 : decode cX8_saved 36 = .ok (.ireturn, 1) := by decide +kernel
theorem dX8_saved_37 : decode cX8_saved 37 = .ok (.aload_n 0, 1) := by decide +kernel
theorem dX8_saved_38 : decode cX8_saved 38 = .ok (.getfield 33, 3) := by decide +kernel
theorem dX8_saved_41 : decode cX8_saved 41 = .ok (.aload_n 0, 1) := by decide +kernel
theorem dX8_saved_42 : decode cX8_saved 42 = .ok (.getfield 26, 3) := by decide +kernel
theorem dX8_saved_45 : decode cX8_saved 45 = .ok (.aload_n 0, 1) := by decide +kernel
theorem dX8_saved_46 : decode cX8_saved 46 = .ok (.getfield 74, 3) := by decide +kernel
theorem dX8_saved_49 : decode cX8_saved 49 = .ok (.aload_n 0, 1) := by decide +kernel
theorem dX8_saved_50 : decode cX8_saved 50 = .ok (.getfield 74, 3) := by decide +kernel
theorem dX8_saved_53 : decode cX8_saved 53 = .ok (.getfield 148, 3) := by decide +kernel
theorem dX8_saved_56 : decode cX8_saved 56 = .ok (.iload_n 2, 1) := by decide +kernel
theorem dX8_saved_57 : decode cX8_saved 57 = .ok (.iaload, 1) := by decide +kernel
theorem dX8_saved_58 : decode cX8_saved 58 = .ok (.invokevirtual 205, 3) := by decide +kernel
theorem dX8_saved_61 : decode cX8_saved 61 = .ok (.iload_n 3, 1) := by decide +kernel
theorem dX8_saved_62 : decode cX8_saved 62 = .ok (.ifCond .ne 14, 3) := by decide +kernel
theorem dX8_saved_65 : decode cX8_saved 65 = .ok (.aload_n 0, 1) := by decide +kernel
theorem dX8_saved_66 : decode cX8_saved 66 = .ok (.getfield 33, 3) := by decide +kernel
theorem dX8_saved_69 : decode cX8_saved 69 = .ok (.iload_n 1, 1) := by decide +kernel
theorem dX8_saved_70 : decode cX8_saved 70 = .ok (.invokevirtual 209, 3) := by decide +kernel
theorem dX8_saved_73 : decode cX8_saved 73 = .ok (.goto 11, 3) := by decide +kernel
theorem dX8_saved_76 : decode cX8_saved 76 = .ok (.aload_n 0, 1) := by decide +kernel
theorem dX8_saved_77 : decode cX8_saved 77 = .ok (.getfield 33, 3) := by decide +kernel
theorem dX8_saved_80 : decode cX8_saved 80 = .ok (.iload_n 1, 1) := by decide +kernel
theorem dX8_saved_81 : decode cX8_saved 81 = .ok (.invokevirtual 212, 3) := by decide +kernel
theorem dX8_saved_84 : decode cX8_saved 84 = .ok (.ireturn, 1) := by decide +kernel
theorem dX8_harm_0 : decode cX8_harm 0 = .ok (.aload_n 0, 1) := by decide +kernel
theorem dX8_harm_1 : decode cX8_harm 1 = .ok (.iload_n 1, 1) := by decide +kernel
theorem dX8_harm_2 : decode cX8_harm 2 = .ok (.invokevirtual 113, 3) := by decide +kernel
theorem dX8_harm_5 : decode cX8_harm 5 = .ok (.ifCond .ne 9, 3) := by decide +kernel
theorem dX8_harm_8 : decode cX8_harm 8 = .ok (.aload_n 0, 1) := by decide +kernel
theorem dX8_harm_9 : decode cX8_harm 9 = .ok (.iconst (-1), 1) := by decide +kernel
theorem dX8_harm_10 : decode cX8_harm 10 = .ok (.invokevirtual 85, 3) := by decide +kernel
theorem dX8_harm_13 : decode cX8_harm 13 = .ok (.ireturn, 1) := by decide +kernel
theorem dX8_harm_14 : decode cX8_harm 14 = .ok (.iload_n 2, 1) := by decide +kernel
theorem dX8_harm_15 : decode cX8_harm 15 = .ok (.ifCond .ge 10, 3) := by decide +kernel
theorem dX8_harm_18 : decode cX8_harm 18 = .ok (.aload_n 0, 1) := by decide +kernel
theorem dX8_harm_19 : decode cX8_harm 19 = .ok (.bipush (-4), 2) := by decide +kernel
theorem dX8_harm_21 : decode cX8_harm 21 = .ok (.invokevirtual 85, 3) := by decide +kernel
theorem dX8_harm_24 : decode cX8_harm 24 = .ok (.ireturn, 1) := by decide +kernel
theorem dX8_harm_25 : decode cX8_harm 25 = .ok (.iload_n 2, 1) := by decide +kernel
theorem dX8_harm_26 : decode cX8_harm 26 = .ok (.ldc 215, 2) := by decide +kernel
theorem dX8_harm_28 : decode cX8_harm 28 = .ok (.if_icmp .le 10, 3) := by decide +kernel
theorem dX8_harm_31 : decode cX8_harm 31 = .ok (.aload_n 0, 1) := by decide +kernel
theorem dX8_harm_32 : decode cX8_harm 32 = .ok (.bipush (-6), 2) := by decide +kernel
theorem dX8_harm_34 : decode cX8_harm 34 = .ok (.invokevirtual 85, 3) := by decide +kernel
theorem dX8_harm_37 : decode cX8_harm 37 = .ok (.ireturn, 1) := by decide +kernel
theorem dX8_harm_38 : decode cX8_harm 38 = .ok (.aload_n 0, 1) := by decide +kernel
theorem dX8_harm_39 : decode cX8_harm 39 = .ok (.getfield 65, 3) := by decide +kernel
theorem dX8_harm_42 : decode cX8_harm 42 = .ok (.getfield 216, 3) := by decide +kernel
theorem dX8_harm_45 : decode cX8_harm 45 = .ok (.iload_n 1, 1) := by decide +kernel
theorem dX8_harm_46 : decode cX8_harm 46 = .ok (.iaload, 1) := by decide +kernel
theorem dX8_harm_47 : decode cX8_harm 47 = .ok (.istore_n 3, 1) := by decide +kernel
theorem dX8_harm_48 : decode cX8_harm 48 = .ok (.aload_n 0, 1) := by decide +kernel
theorem dX8_harm_49 : decode cX8_harm 49 = .ok (.getfield 65, 3) := by decide +kernel
theorem dX8_harm_52 : decode cX8_harm 52 = .ok (.getfield 216, 3) := by decide +kernel
theorem dX8_harm_55 : decode cX8_harm 55 = .ok (.iload_n 1, 1) := by decide +kernel
theorem dX8_harm_56 : decode cX8_harm 56 = .ok (.iload_n 2, 1) := by decide +kernel
theorem dX8_harm_57 : decode cX8_harm 57 = .ok (.iastore, 1) := by decide +kernel
theorem dX8_harm_58 : decode cX8_harm 58 = .ok (.iload_n 3, 1) := by decide +kernel
theorem dX8_harm_59 : decode cX8_harm 59 = .ok (.ireturn, 1) := by decide +kernel
theorem dX8_worth_0 : decode cX8_worth 0 = .ok (.aload_n 0, 1) := by decide +kernel
theorem dX8_worth_1 : decode cX8_worth 1 = .ok (.iload_n 1, 1) := by decide +kernel
theorem dX8_worth_2 : decode cX8_worth 2 = .ok (.invokevirtual 113, 3) := by decide +kernel
theorem dX8_worth_5 : decode cX8_worth 5 = .ok (.ifCond .ne 9, 3) := by decide +kernel
theorem dX8_worth_8 : decode cX8_worth 8 = .ok (.aload_n 0, 1) := by decide +kernel
theorem dX8_worth_9 : decode cX8_worth 9 = .ok (.iconst (-1), 1) := by decide +kernel
theorem dX8_worth_10 : decode cX8_worth 10 = .ok (.invokevirtual 85, 3) := by decide +kernel
theorem dX8_worth_13 : decode cX8_worth 13 = .ok (.ireturn, 1) := by decide +kernel
theorem dX8_worth_14 : decode cX8_worth 14 = .ok (.aload_n 0, 1) := by decide +kernel
theorem dX8_worth_15 : decode cX8_worth 15 = .ok (.aload_n 0, 1) := by decide +kernel
theorem dX8_worth_16 : decode cX8_worth 16 = .ok (.getfield 74, 3) := by decide +kernel
theorem dX8_worth_19 : decode cX8_worth 19 = .ok (.aload_n 0, 1) := by decide +kernel
theorem dX8_worth_20 : decode cX8_worth 20 = .ok (.getfield 74, 3) := by decide +kernel
theorem dX8_worth_23 : decode cX8_worth 23 = .ok (.getfield 148, 3) := by decide +kernel
theorem dX8_worth_26 : decode cX8_worth 26 = .ok (.iload_n 1, 1) := by decide +kernel
theorem dX8_worth_27 : decode cX8_worth 27 = .ok (.iaload, 1) := by decide +kernel
theorem dX8_worth_28 : decode cX8_worth 28 = .ok (.invokevirtual 219, 3) := by decide +kernel
theorem dX8_worth_31 : decode cX8_worth 31 = .ok (.ireturn, 1) := by decide +kernel
theorem dX8_rule_0 : decode cX8_rule 0 = .ok (.iload_n 1, 1) := by decide +kernel
theorem dX8_rule_1 : decode cX8_rule 1 = .ok (.aload_n 0, 1) := by decide +kernel
theorem dX8_rule_2 : decode cX8_rule 2 = .ok (.getfield 58, 3) := by decide +kernel
theorem dX8_rule_5 : decode cX8_rule 5 = .ok (.if_icmp .lt 17, 3) := by decide +kernel
theorem dX8_rule_8 : decode cX8_rule 8 = .ok (.iload_n 2, 1) := by decide +kernel
theorem dX8_rule_9 : decode cX8_rule 9 = .ok (.ifCond .lt 13, 3) := by decide +kernel
theorem dX8_rule_12 : decode cX8_rule 12 = .ok (.iload_n 3, 1) := by decide +kernel
theorem dX8_rule_13 : decode cX8_rule 13 = .ok (.ifCond .lt 9, 3) := by decide +kernel
theorem dX8_rule_16 : decode cX8_rule 16 = .ok (.iload 4, 2) := by decide +kernel
theorem dX8_rule_18 : decode cX8_rule 18 = .ok (.iconst 1, 1) := by decide +kernel
theorem dX8_rule_19 : decode cX8_rule 19 = .ok (.if_icmp .ge 10, 3) := by decide +kernel
theorem dX8_rule_22 : decode cX8_rule 22 = .ok (.aload_n 0, 1) := by decide +kernel
theorem dX8_rule_23 : decode cX8_rule 23 = .ok (.bipush (-4), 2) := by decide +kernel
theorem dX8_rule_25 : decode cX8_rule 25 = .ok (.invokevirtual 85, 3) := by decide +kernel
theorem dX8_rule_28 : decode cX8_rule 28 = .ok (.ireturn, 1) := by decide +kernel
theorem dX8_rule_29 : decode cX8_rule 29 = .ok (.iload_n 1, 1) := by decide +kernel
theorem dX8_rule_30 : decode cX8_rule 30 = .ok (.sipush 3000, 3) := by decide +kernel
theorem dX8_rule_33 : decode cX8_rule 33 = .ok (.if_icmp .gt 21, 3) := by decide +kernel
theorem dX8_rule_36 : decode cX8_rule 36 = .ok (.iload_n 2, 1) := by decide +kernel
theorem dX8_rule_37 : decode cX8_rule 37 = .ok (.bipush 100, 2) := by decide +kernel
theorem dX8_rule_39 : decode cX8_rule 39 = .ok (.if_icmp .gt 15, 3) := by decide +kernel
theorem dX8_rule_42 : decode cX8_rule 42 = .ok (.iload_n 3, 1) := by decide +kernel
theorem dX8_rule_43 : decode cX8_rule 43 = .ok (.ldc 215, 2) := by decide +kernel
theorem dX8_rule_45 : decode cX8_rule 45 = .ok (.if_icmp .gt 9, 3) := by decide +kernel
theorem dX8_rule_48 : decode cX8_rule 48 = .ok (.iload 4, 2) := by decide +kernel
theorem dX8_rule_50 : decode cX8_rule 50 = .ok (.iconst 5, 1) := by decide +kernel
theorem dX8_rule_51 : decode cX8_rule 51 = .ok (.if_icmp .le 10, 3) := by decide +kernel
theorem dX8_rule_54 : decode cX8_rule 54 = .ok (.aload_n 0, 1) := by decide +kernel
theorem dX8_rule_55 : decode cX8_rule 55 = .ok (.bipush (-6), 2) := by decide +kernel
theorem dX8_rule_57 : decode cX8_rule 57 = .ok (.invokevirtual 85, 3) := by decide +kernel
theorem dX8_rule_60 : decode cX8_rule 60 = .ok (.ireturn, 1) := by decide +kernel
theorem dX8_rule_61 : decode cX8_rule 61 = .ok (.aload_n 0, 1) := by decide +kernel
theorem dX8_rule_62 : decode cX8_rule 62 = .ok (.getfield 40, 3) := by decide +kernel
theorem dX8_rule_65 : decode cX8_rule 65 = .ok (.getfield 223, 3) := by decide +kernel
theorem dX8_rule_68 : decode cX8_rule 68 = .ok (.bipush 20, 2) := by decide +kernel
theorem dX8_rule_70 : decode cX8_rule 70 = .ok (.if_icmp .lt 10, 3) := by decide +kernel
theorem dX8_rule_73 : decode cX8_rule 73 = .ok (.aload_n 0, 1) := by decide +kernel
theorem dX8_rule_74 : decode cX8_rule 74 = .ok (.bipush (-6), 2) := by decide +kernel
theorem dX8_rule_76 : decode cX8_rule 76 = .ok (.invokevirtual 85, 3) := by decide +kernel
theorem dX8_rule_79 : decode cX8_rule 79 = .ok (.ireturn, 1) := by decide +kernel
theorem dX8_rule_80 : decode cX8_rule 80 = .ok (.aload_n 0, 1) := by decide +kernel
theorem dX8_rule_81 : decode cX8_rule 81 = .ok (.getfield 40, 3) := by decide +kernel
theorem dX8_rule_84 : decode cX8_rule 84 = .ok (.iload_n 1, 1) := by decide +kernel
theorem dX8_rule_85 : decode cX8_rule 85 = .ok (.iload_n 2, 1) := by decide +kernel
theorem dX8_rule_86 : decode cX8_rule 86 = .ok (.iload_n 3, 1) := by decide +kernel
theorem dX8_rule_87 : decode cX8_rule 87 = .ok (.iload 4, 2) := by decide +kernel
theorem dX8_rule_89 : decode cX8_rule 89 = .ok (.invokevirtual 224, 3) := by decide +kernel
theorem dX8_rule_92 : decode cX8_rule 92 = .ok (.ireturn, 1) := by decide +kernel
theorem dX8_ruleOf_0 : decode cX8_ruleOf 0 = .ok (.aload_n 0, 1) := by decide +kernel
theorem dX8_ruleOf_1 : decode cX8_ruleOf 1 = .ok (.iload_n 1, 1) := by decide +kernel
theorem dX8_ruleOf_2 : decode cX8_ruleOf 2 = .ok (.invokevirtual 113, 3) := by decide +kernel
theorem dX8_ruleOf_5 : decode cX8_ruleOf 5 = .ok (.ifCond .ne 9, 3) := by decide +kernel
theorem dX8_ruleOf_8 : decode cX8_ruleOf 8 = .ok (.aload_n 0, 1) := by decide +kernel
theorem dX8_ruleOf_9 : decode cX8_ruleOf 9 = .ok (.iconst (-1), 1) := by decide +kernel
theorem dX8_ruleOf_10 : decode cX8_ruleOf 10 = .ok (.invokevirtual 85, 3) := by decide +kernel
theorem dX8_ruleOf_13 : decode cX8_ruleOf 13 = .ok (.ireturn, 1) := by decide +kernel
theorem dX8_ruleOf_14 : decode cX8_ruleOf 14 = .ok (.aload_n 0, 1) := by decide +kernel
theorem dX8_ruleOf_15 : decode cX8_ruleOf 15 = .ok (.iload_n 1, 1) := by decide +kernel
theorem dX8_ruleOf_16 : decode cX8_ruleOf 16 = .ok (.invokevirtual 227, 3) := by decide +kernel
theorem dX8_ruleOf_19 : decode cX8_ruleOf 19 = .ok (.ireturn, 1) := by decide +kernel
theorem dX8_work_0 : decode cX8_work 0 = .ok (.iload_n 1, 1) := by decide +kernel
theorem dX8_work_1 : decode cX8_work 1 = .ok (.invokestatic 81, 3) := by decide +kernel
theorem dX8_work_4 : decode cX8_work 4 = .ok (.ifCond .eq 10, 3) := by decide +kernel
theorem dX8_work_7 : decode cX8_work 7 = .ok (.iload_n 2, 1) := by decide +kernel
theorem dX8_work_8 : decode cX8_work 8 = .ok (.invokestatic 102, 3) := by decide +kernel
theorem dX8_work_11 : decode cX8_work 11 = .ok (.ifCond .ne 9, 3) := by decide +kernel
theorem dX8_work_14 : decode cX8_work 14 = .ok (.aload_n 0, 1) := by decide +kernel
theorem dX8_work_15 : decode cX8_work 15 = .ok (.iconst (-1), 1) := by decide +kernel
theorem dX8_work_16 : decode cX8_work 16 = .ok (.invokevirtual 85, 3) := by decide +kernel
theorem dX8_work_19 : decode cX8_work 19 = .ok (.ireturn, 1) := by decide +kernel
theorem dX8_work_20 : decode cX8_work 20 = .ok (.aload_n 0, 1) := by decide +kernel
theorem dX8_work_21 : decode cX8_work 21 = .ok (.getfield 47, 3) := by decide +kernel
theorem dX8_work_24 : decode cX8_work 24 = .ok (.getfield 230, 3) := by decide +kernel
theorem dX8_work_27 : decode cX8_work 27 = .ok (.bipush 20, 2) := by decide +kernel
theorem dX8_work_29 : decode cX8_work 29 = .ok (.if_icmp .lt 10, 3) := by decide +kernel
theorem dX8_work_32 : decode cX8_work 32 = .ok (.aload_n 0, 1) := by decide +kernel
theorem dX8_work_33 : decode cX8_work 33 = .ok (.bipush (-6), 2) := by decide +kernel
theorem dX8_work_35 : decode cX8_work 35 = .ok (.invokevirtual 85, 3) := by decide +kernel
theorem dX8_work_38 : decode cX8_work 38 = .ok (.ireturn, 1) := by decide +kernel
theorem dX8_work_39 : decode cX8_work 39 = .ok (.aload_n 0, 1) := by decide +kernel
theorem dX8_work_40 : decode cX8_work 40 = .ok (.getfield 65, 3) := by decide +kernel
theorem dX8_work_43 : decode cX8_work 43 = .ok (.iload_n 1, 1) := by decide +kernel
theorem dX8_work_44 : decode cX8_work 44 = .ok (.iload_n 2, 1) := by decide +kernel
theorem dX8_work_45 : decode cX8_work 45 = .ok (.aload_n 0, 1) := by decide +kernel
theorem dX8_work_46 : decode cX8_work 46 = .ok (.getfield 51, 3) := by decide +kernel
theorem dX8_work_49 : decode cX8_work 49 = .ok (.iconst 0, 1) := by decide +kernel
theorem dX8_work_50 : decode cX8_work 50 = .ok (.iaload, 1) := by decide +kernel
theorem dX8_work_51 : decode cX8_work 51 = .ok (.invokevirtual 231, 3) := by decide +kernel
theorem dX8_work_54 : decode cX8_work 54 = .ok (.istore_n 3, 1) := by decide +kernel
theorem dX8_work_55 : decode cX8_work 55 = .ok (.aload_n 0, 1) := by decide +kernel
theorem dX8_work_56 : decode cX8_work 56 = .ok (.getfield 47, 3) := by decide +kernel
theorem dX8_work_59 : decode cX8_work 59 = .ok (.iload_n 3, 1) := by decide +kernel
theorem dX8_work_60 : decode cX8_work 60 = .ok (.invokevirtual 235, 3) := by decide +kernel
theorem dX8_work_63 : decode cX8_work 63 = .ok (.iload_n 3, 1) := by decide +kernel
theorem dX8_work_64 : decode cX8_work 64 = .ok (.ireturn, 1) := by decide +kernel
theorem dX8_ledBack_0 : decode cX8_ledBack 0 = .ok (.iload_n 1, 1) := by decide +kernel
theorem dX8_ledBack_1 : decode cX8_ledBack 1 = .ok (.ifCond .lt 26, 3) := by decide +kernel
theorem dX8_ledBack_4 : decode cX8_ledBack 4 = .ok (.iload_n 1, 1) := by decide +kernel
theorem dX8_ledBack_5 : decode cX8_ledBack 5 = .ok (.aload_n 0, 1) := by decide +kernel
theorem dX8_ledBack_6 : decode cX8_ledBack 6 = .ok (.getfield 47, 3) := by decide +kernel
theorem dX8_ledBack_9 : decode cX8_ledBack 9 = .ok (.getfield 230, 3) := by decide +kernel
theorem dX8_ledBack_12 : decode cX8_ledBack 12 = .ok (.if_icmp .ge 15, 3) := by decide +kernel
theorem dX8_ledBack_15 : decode cX8_ledBack 15 = .ok (.aload_n 0, 1) := by decide +kernel
theorem dX8_ledBack_16 : decode cX8_ledBack 16 = .ok (.getfield 47, 3) := by decide +kernel
theorem dX8_ledBack_19 : decode cX8_ledBack 19 = .ok (.getfield 237, 3) := by decide +kernel
theorem dX8_ledBack_22 : decode cX8_ledBack 22 = .ok (.iload_n 1, 1) := by decide +kernel
theorem dX8_ledBack_23 : decode cX8_ledBack 23 = .ok (.iaload, 1) := by decide +kernel
theorem dX8_ledBack_24 : decode cX8_ledBack 24 = .ok (.goto 5, 3) := by decide +kernel
theorem dX8_ledBack_27 : decode cX8_ledBack 27 = .ok (.bipush (-9), 2) := by decide +kernel
theorem dX8_ledBack_29 : decode cX8_ledBack 29 = .ok (.ireturn, 1) := by decide +kernel
theorem dX8_reopen_0 : decode cX8_reopen 0 = .ok (.aload_n 0, 1) := by decide +kernel
theorem dX8_reopen_1 : decode cX8_reopen 1 = .ok (.iload_n 1, 1) := by decide +kernel
theorem dX8_reopen_2 : decode cX8_reopen 2 = .ok (.invokevirtual 113, 3) := by decide +kernel
theorem dX8_reopen_5 : decode cX8_reopen 5 = .ok (.ifCond .ne 9, 3) := by decide +kernel
theorem dX8_reopen_8 : decode cX8_reopen 8 = .ok (.aload_n 0, 1) := by decide +kernel
theorem dX8_reopen_9 : decode cX8_reopen 9 = .ok (.iconst (-1), 1) := by decide +kernel
theorem dX8_reopen_10 : decode cX8_reopen 10 = .ok (.invokevirtual 85, 3) := by decide +kernel
theorem dX8_reopen_13 : decode cX8_reopen 13 = .ok (.ireturn, 1) := by decide +kernel
theorem dX8_reopen_14 : decode cX8_reopen 14 = .ok (.aload_n 0, 1) := by decide +kernel
theorem dX8_reopen_15 : decode cX8_reopen 15 = .ok (.getfield 65, 3) := by decide +kernel
theorem dX8_reopen_18 : decode cX8_reopen 18 = .ok (.getfield 172, 3) := by decide +kernel
theorem dX8_reopen_21 : decode cX8_reopen 21 = .ok (.iload_n 1, 1) := by decide +kernel
theorem dX8_reopen_22 : decode cX8_reopen 22 = .ok (.iaload, 1) := by decide +kernel
theorem dX8_reopen_23 : decode cX8_reopen 23 = .ok (.iconst 2, 1) := by decide +kernel
theorem dX8_reopen_24 : decode cX8_reopen 24 = .ok (.if_icmp .ne 14, 3) := by decide +kernel
theorem dX8_reopen_27 : decode cX8_reopen 27 = .ok (.aload_n 0, 1) := by decide +kernel
theorem dX8_reopen_28 : decode cX8_reopen 28 = .ok (.getfield 47, 3) := by decide +kernel
theorem dX8_reopen_31 : decode cX8_reopen 31 = .ok (.iload_n 1, 1) := by decide +kernel
theorem dX8_reopen_32 : decode cX8_reopen 32 = .ok (.invokevirtual 240, 3) := by decide +kernel
theorem dX8_reopen_35 : decode cX8_reopen 35 = .ok (.ifCond .ne 10, 3) := by decide +kernel
theorem dX8_reopen_38 : decode cX8_reopen 38 = .ok (.aload_n 0, 1) := by decide +kernel
theorem dX8_reopen_39 : decode cX8_reopen 39 = .ok (.bipush (-3), 2) := by decide +kernel
theorem dX8_reopen_41 : decode cX8_reopen 41 = .ok (.invokevirtual 85, 3) := by decide +kernel
theorem dX8_reopen_44 : decode cX8_reopen 44 = .ok (.ireturn, 1) := by decide +kernel
theorem dX8_reopen_45 : decode cX8_reopen 45 = .ok (.aload_n 0, 1) := by decide +kernel
theorem dX8_reopen_46 : decode cX8_reopen 46 = .ok (.iload_n 1, 1) := by decide +kernel
theorem dX8_reopen_47 : decode cX8_reopen 47 = .ok (.iconst 1, 1) := by decide +kernel
theorem dX8_reopen_48 : decode cX8_reopen 48 = .ok (.invokevirtual 185, 3) := by decide +kernel
theorem dX8_reopen_51 : decode cX8_reopen 51 = .ok (.ireturn, 1) := by decide +kernel
theorem dX8_other_0 : decode cX8_other 0 = .ok (.iload_n 1, 1) := by decide +kernel
theorem dX8_other_1 : decode cX8_other 1 = .ok (.getstatic 131, 3) := by decide +kernel
theorem dX8_other_4 : decode cX8_other 4 = .ok (.iconst 0, 1) := by decide +kernel
theorem dX8_other_5 : decode cX8_other 5 = .ok (.iaload, 1) := by decide +kernel
theorem dX8_other_6 : decode cX8_other 6 = .ok (.if_icmp .lt 11, 3) := by decide +kernel
theorem dX8_other_9 : decode cX8_other 9 = .ok (.iload_n 2, 1) := by decide +kernel
theorem dX8_other_10 : decode cX8_other 10 = .ok (.ifCond .lt 7, 3) := by decide +kernel
theorem dX8_other_13 : decode cX8_other 13 = .ok (.iload_n 3, 1) := by decide +kernel
theorem dX8_other_14 : decode cX8_other 14 = .ok (.ifCond .ge 10, 3) := by decide +kernel
theorem dX8_other_17 : decode cX8_other 17 = .ok (.aload_n 0, 1) := by decide +kernel
theorem dX8_other_18 : decode cX8_other 18 = .ok (.bipush (-4), 2) := by decide +kernel
theorem dX8_other_20 : decode cX8_other 20 = .ok (.invokevirtual 85, 3) := by decide +kernel
theorem dX8_other_23 : decode cX8_other 23 = .ok (.ireturn, 1) := by decide +kernel
theorem dX8_other_24 : decode cX8_other 24 = .ok (.iload_n 1, 1) := by decide +kernel
theorem dX8_other_25 : decode cX8_other 25 = .ok (.getstatic 134, 3) := by decide +kernel
theorem dX8_other_28 : decode cX8_other 28 = .ok (.iconst 0, 1) := by decide +kernel
theorem dX8_other_29 : decode cX8_other 29 = .ok (.iaload, 1) := by decide +kernel
theorem dX8_other_30 : decode cX8_other 30 = .ok (.if_icmp .gt 15, 3) := by decide +kernel
theorem dX8_other_33 : decode cX8_other 33 = .ok (.iload_n 2, 1) := by decide +kernel
theorem dX8_other_34 : decode cX8_other 34 = .ok (.bipush 100, 2) := by decide +kernel
theorem dX8_other_36 : decode cX8_other 36 = .ok (.if_icmp .gt 9, 3) := by decide +kernel
theorem dX8_other_39 : decode cX8_other 39 = .ok (.iload_n 3, 1) := by decide +kernel
theorem dX8_other_40 : decode cX8_other 40 = .ok (.ldc 215, 2) := by decide +kernel
theorem dX8_other_42 : decode cX8_other 42 = .ok (.if_icmp .le 10, 3) := by decide +kernel
theorem dX8_other_45 : decode cX8_other 45 = .ok (.aload_n 0, 1) := by decide +kernel
theorem dX8_other_46 : decode cX8_other 46 = .ok (.bipush (-6), 2) := by decide +kernel
theorem dX8_other_48 : decode cX8_other 48 = .ok (.invokevirtual 85, 3) := by decide +kernel
theorem dX8_other_51 : decode cX8_other 51 = .ok (.ireturn, 1) := by decide +kernel
theorem dX8_other_52 : decode cX8_other 52 = .ok (.aload_n 0, 1) := by decide +kernel
theorem dX8_other_53 : decode cX8_other 53 = .ok (.getfield 78, 3) := by decide +kernel
theorem dX8_other_56 : decode cX8_other 56 = .ok (.iload_n 1, 1) := by decide +kernel
theorem dX8_other_57 : decode cX8_other 57 = .ok (.invokevirtual 137, 3) := by decide +kernel
theorem dX8_other_60 : decode cX8_other 60 = .ok (.iconst 0, 1) := by decide +kernel
theorem dX8_other_61 : decode cX8_other 61 = .ok (.istore 4, 2) := by decide +kernel
theorem dX8_other_63 : decode cX8_other 63 = .ok (.iconst 0, 1) := by decide +kernel
theorem dX8_other_64 : decode cX8_other 64 = .ok (.istore 5, 2) := by decide +kernel
theorem dX8_other_66 : decode cX8_other 66 = .ok (.iload 5, 2) := by decide +kernel
theorem dX8_other_68 : decode cX8_other 68 = .ok (.aload_n 0, 1) := by decide +kernel
theorem dX8_other_69 : decode cX8_other 69 = .ok (.getfield 65, 3) := by decide +kernel
theorem dX8_other_72 : decode cX8_other 72 = .ok (.getfield 105, 3) := by decide +kernel
theorem dX8_other_75 : decode cX8_other 75 = .ok (.if_icmp .ge 56, 3) := by decide +kernel
theorem dX8_other_78 : decode cX8_other 78 = .ok (.aload_n 0, 1) := by decide +kernel
theorem dX8_other_79 : decode cX8_other 79 = .ok (.getfield 78, 3) := by decide +kernel
theorem dX8_other_82 : decode cX8_other 82 = .ok (.getfield 148, 3) := by decide +kernel
theorem dX8_other_85 : decode cX8_other 85 = .ok (.iload 5, 2) := by decide +kernel
theorem dX8_other_87 : decode cX8_other 87 = .ok (.iaload, 1) := by decide +kernel
theorem dX8_other_88 : decode cX8_other 88 = .ok (.iload 5, 2) := by decide +kernel
theorem dX8_other_90 : decode cX8_other 90 = .ok (.if_icmp .ne 35, 3) := by decide +kernel
theorem dX8_other_93 : decode cX8_other 93 = .ok (.aload_n 0, 1) := by decide +kernel
theorem dX8_other_94 : decode cX8_other 94 = .ok (.getfield 78, 3) := by decide +kernel
theorem dX8_other_97 : decode cX8_other 97 = .ok (.iload 5, 2) := by decide +kernel
theorem dX8_other_99 : decode cX8_other 99 = .ok (.invokevirtual 243, 3) := by decide +kernel
theorem dX8_other_102 : decode cX8_other 102 = .ok (.ifCond .eq 23, 3) := by decide +kernel
theorem dX8_other_105 : decode cX8_other 105 = .ok (.iload 4, 2) := by decide +kernel
theorem dX8_other_107 : decode cX8_other 107 = .ok (.aload_n 0, 1) := by decide +kernel
theorem dX8_other_108 : decode cX8_other 108 = .ok (.aload_n 0, 1) := by decide +kernel
theorem dX8_other_109 : decode cX8_other 109 = .ok (.getfield 78, 3) := by decide +kernel
theorem dX8_other_112 : decode cX8_other 112 = .ok (.iload 5, 2) := by decide +kernel
theorem dX8_other_114 : decode cX8_other 114 = .ok (.invokevirtual 219, 3) := by decide +kernel
theorem dX8_other_117 : decode cX8_other 117 = .ok (.iload_n 2, 1) := by decide +kernel
theorem dX8_other_118 : decode cX8_other 118 = .ok (.iload_n 3, 1) := by decide +kernel
theorem dX8_other_119 : decode cX8_other 119 = .ok (.invokestatic 246, 3) := by decide +kernel
theorem dX8_other_122 : decode cX8_other 122 = .ok (.iadd, 1) := by decide +kernel
theorem dX8_other_123 : decode cX8_other 123 = .ok (.istore 4, 2) := by decide +kernel
theorem dX8_other_125 : decode cX8_other 125 = .ok (.iinc 5 1, 3) := by decide +kernel
theorem dX8_other_128 : decode cX8_other 128 = .ok (.goto (-62), 3) := by decide +kernel
theorem dX8_other_131 : decode cX8_other 131 = .ok (.iload 4, 2) := by decide +kernel
theorem dX8_other_133 : decode cX8_other 133 = .ok (.ireturn, 1) := by decide +kernel
theorem dX8_coins_0 : decode cX8_coins 0 = .ok (.aload_n 0, 1) := by decide +kernel
theorem dX8_coins_1 : decode cX8_coins 1 = .ok (.iload_n 1, 1) := by decide +kernel
theorem dX8_coins_2 : decode cX8_coins 2 = .ok (.invokevirtual 95, 3) := by decide +kernel
theorem dX8_coins_5 : decode cX8_coins 5 = .ok (.ifCond .ne 9, 3) := by decide +kernel
theorem dX8_coins_8 : decode cX8_coins 8 = .ok (.aload_n 0, 1) := by decide +kernel
theorem dX8_coins_9 : decode cX8_coins 9 = .ok (.iconst (-1), 1) := by decide +kernel
theorem dX8_coins_10 : decode cX8_coins 10 = .ok (.invokevirtual 85, 3) := by decide +kernel
theorem dX8_coins_13 : decode cX8_coins 13 = .ok (.ireturn, 1) := by decide +kernel
theorem dX8_coins_14 : decode cX8_coins 14 = .ok (.iload_n 2, 1) := by decide +kernel
theorem dX8_coins_15 : decode cX8_coins 15 = .ok (.lookupswitch 45 #[(0, 25), (1, 35)], 25) := by decide +kernel
theorem dX8_coins_40 : decode cX8_coins 40 = .ok (.aload_n 0, 1) := by decide +kernel
theorem dX8_coins_41 : decode cX8_coins 41 = .ok (.getfield 10, 3) := by decide +kernel
theorem dX8_coins_44 : decode cX8_coins 44 = .ok (.getfield 249, 3) := by decide +kernel
theorem dX8_coins_47 : decode cX8_coins 47 = .ok (.iload_n 1, 1) := by decide +kernel
theorem dX8_coins_48 : decode cX8_coins 48 = .ok (.iaload, 1) := by decide +kernel
theorem dX8_coins_49 : decode cX8_coins 49 = .ok (.ireturn, 1) := by decide +kernel
theorem dX8_coins_50 : decode cX8_coins 50 = .ok (.aload_n 0, 1) := by decide +kernel
theorem dX8_coins_51 : decode cX8_coins 51 = .ok (.getfield 10, 3) := by decide +kernel
theorem dX8_coins_54 : decode cX8_coins 54 = .ok (.getfield 252, 3) := by decide +kernel
theorem dX8_coins_57 : decode cX8_coins 57 = .ok (.iload_n 1, 1) := by decide +kernel
theorem dX8_coins_58 : decode cX8_coins 58 = .ok (.iaload, 1) := by decide +kernel
theorem dX8_coins_59 : decode cX8_coins 59 = .ok (.ireturn, 1) := by decide +kernel
theorem dX8_coins_60 : decode cX8_coins 60 = .ok (.aload_n 0, 1) := by decide +kernel
theorem dX8_coins_61 : decode cX8_coins 61 = .ok (.bipush (-2), 2) := by decide +kernel
theorem dX8_coins_63 : decode cX8_coins 63 = .ok (.invokevirtual 85, 3) := by decide +kernel
theorem dX8_coins_66 : decode cX8_coins 66 = .ok (.ireturn, 1) := by decide +kernel
theorem dX8_ideaOf_0 : decode cX8_ideaOf 0 = .ok (.aload_n 0, 1) := by decide +kernel
theorem dX8_ideaOf_1 : decode cX8_ideaOf 1 = .ok (.iload_n 1, 1) := by decide +kernel
theorem dX8_ideaOf_2 : decode cX8_ideaOf 2 = .ok (.invokevirtual 113, 3) := by decide +kernel
theorem dX8_ideaOf_5 : decode cX8_ideaOf 5 = .ok (.ifCond .ne 9, 3) := by decide +kernel
theorem dX8_ideaOf_8 : decode cX8_ideaOf 8 = .ok (.aload_n 0, 1) := by decide +kernel
theorem dX8_ideaOf_9 : decode cX8_ideaOf 9 = .ok (.iconst (-1), 1) := by decide +kernel
theorem dX8_ideaOf_10 : decode cX8_ideaOf 10 = .ok (.invokevirtual 85, 3) := by decide +kernel
theorem dX8_ideaOf_13 : decode cX8_ideaOf 13 = .ok (.ireturn, 1) := by decide +kernel
theorem dX8_ideaOf_14 : decode cX8_ideaOf 14 = .ok (.iload_n 2, 1) := by decide +kernel
theorem dX8_ideaOf_15 : decode cX8_ideaOf 15 = .ok (.tableswitch 114 0 5 #[37, 47, 57, 84, 94, 104], 37) := by decide +kernel
theorem dX8_ideaOf_52 : decode cX8_ideaOf 52 = .ok (.aload_n 0, 1) := by decide +kernel
theorem dX8_ideaOf_53 : decode cX8_ideaOf 53 = .ok (.getfield 65, 3) := by decide +kernel
theorem dX8_ideaOf_56 : decode cX8_ideaOf 56 = .ok (.getfield 172, 3) := by decide +kernel
theorem dX8_ideaOf_59 : decode cX8_ideaOf 59 = .ok (.iload_n 1, 1) := by decide +kernel
theorem dX8_ideaOf_60 : decode cX8_ideaOf 60 = .ok (.iaload, 1) := by decide +kernel
theorem dX8_ideaOf_61 : decode cX8_ideaOf 61 = .ok (.ireturn, 1) := by decide +kernel
theorem dX8_ideaOf_62 : decode cX8_ideaOf 62 = .ok (.aload_n 0, 1) := by decide +kernel
theorem dX8_ideaOf_63 : decode cX8_ideaOf 63 = .ok (.getfield 65, 3) := by decide +kernel
theorem dX8_ideaOf_66 : decode cX8_ideaOf 66 = .ok (.getfield 255, 3) := by decide +kernel
theorem dX8_ideaOf_69 : decode cX8_ideaOf 69 = .ok (.iload_n 1, 1) := by decide +kernel
theorem dX8_ideaOf_70 : decode cX8_ideaOf 70 = .ok (.iaload, 1) := by decide +kernel
theorem dX8_ideaOf_71 : decode cX8_ideaOf 71 = .ok (.ireturn, 1) := by decide +kernel
theorem dX8_ideaOf_72 : decode cX8_ideaOf 72 = .ok (.aload_n 0, 1) := by decide +kernel
theorem dX8_ideaOf_73 : decode cX8_ideaOf 73 = .ok (.getfield 65, 3) := by decide +kernel
theorem dX8_ideaOf_76 : decode cX8_ideaOf 76 = .ok (.getfield 172, 3) := by decide +kernel
theorem dX8_ideaOf_79 : decode cX8_ideaOf 79 = .ok (.iload_n 1, 1) := by decide +kernel
theorem dX8_ideaOf_80 : decode cX8_ideaOf 80 = .ok (.iaload, 1) := by decide +kernel
theorem dX8_ideaOf_81 : decode cX8_ideaOf 81 = .ok (.ifCond .ne 8, 3) := by decide +kernel
theorem dX8_ideaOf_84 : decode cX8_ideaOf 84 = .ok (.bipush (-9), 2) := by decide +kernel
theorem dX8_ideaOf_86 : decode cX8_ideaOf 86 = .ok (.goto 12, 3) := by decide +kernel
theorem dX8_ideaOf_89 : decode cX8_ideaOf 89 = .ok (.aload_n 0, 1) := by decide +kernel
theorem dX8_ideaOf_90 : decode cX8_ideaOf 90 = .ok (.getfield 65, 3) := by decide +kernel
theorem dX8_ideaOf_93 : decode cX8_ideaOf 93 = .ok (.getfield 258, 3) := by decide +kernel
theorem dX8_ideaOf_96 : decode cX8_ideaOf 96 = .ok (.iload_n 1, 1) := by decide +kernel
theorem dX8_ideaOf_97 : decode cX8_ideaOf 97 = .ok (.iaload, 1) := by decide +kernel
theorem dX8_ideaOf_98 : decode cX8_ideaOf 98 = .ok (.ireturn, 1) := by decide +kernel
theorem dX8_ideaOf_99 : decode cX8_ideaOf 99 = .ok (.aload_n 0, 1) := by decide +kernel
theorem dX8_ideaOf_100 : decode cX8_ideaOf 100 = .ok (.getfield 65, 3) := by decide +kernel
theorem dX8_ideaOf_103 : decode cX8_ideaOf 103 = .ok (.getfield 261, 3) := by decide +kernel
theorem dX8_ideaOf_106 : decode cX8_ideaOf 106 = .ok (.iload_n 1, 1) := by decide +kernel
theorem dX8_ideaOf_107 : decode cX8_ideaOf 107 = .ok (.iaload, 1) := by decide +kernel
theorem dX8_ideaOf_108 : decode cX8_ideaOf 108 = .ok (.ireturn, 1) := by decide +kernel
theorem dX8_ideaOf_109 : decode cX8_ideaOf 109 = .ok (.aload_n 0, 1) := by decide +kernel
theorem dX8_ideaOf_110 : decode cX8_ideaOf 110 = .ok (.getfield 65, 3) := by decide +kernel
theorem dX8_ideaOf_113 : decode cX8_ideaOf 113 = .ok (.getfield 262, 3) := by decide +kernel
theorem dX8_ideaOf_116 : decode cX8_ideaOf 116 = .ok (.iload_n 1, 1) := by decide +kernel
theorem dX8_ideaOf_117 : decode cX8_ideaOf 117 = .ok (.iaload, 1) := by decide +kernel
theorem dX8_ideaOf_118 : decode cX8_ideaOf 118 = .ok (.ireturn, 1) := by decide +kernel
theorem dX8_ideaOf_119 : decode cX8_ideaOf 119 = .ok (.aload_n 0, 1) := by decide +kernel
theorem dX8_ideaOf_120 : decode cX8_ideaOf 120 = .ok (.getfield 65, 3) := by decide +kernel
theorem dX8_ideaOf_123 : decode cX8_ideaOf 123 = .ok (.getfield 141, 3) := by decide +kernel
theorem dX8_ideaOf_126 : decode cX8_ideaOf 126 = .ok (.iload_n 1, 1) := by decide +kernel
theorem dX8_ideaOf_127 : decode cX8_ideaOf 127 = .ok (.iaload, 1) := by decide +kernel
theorem dX8_ideaOf_128 : decode cX8_ideaOf 128 = .ok (.ireturn, 1) := by decide +kernel
theorem dX8_ideaOf_129 : decode cX8_ideaOf 129 = .ok (.aload_n 0, 1) := by decide +kernel
theorem dX8_ideaOf_130 : decode cX8_ideaOf 130 = .ok (.bipush (-2), 2) := by decide +kernel
theorem dX8_ideaOf_132 : decode cX8_ideaOf 132 = .ok (.invokevirtual 85, 3) := by decide +kernel
theorem dX8_ideaOf_135 : decode cX8_ideaOf 135 = .ok (.ireturn, 1) := by decide +kernel
theorem dX8_count_0 : decode cX8_count 0 = .ok (.iload_n 1, 1) := by decide +kernel
theorem dX8_count_1 : decode cX8_count 1 = .ok (.tableswitch 134 0 9 #[55, 60, 68, 76, 85, 94, 102, 110, 118, 126], 55) := by decide +kernel
theorem dX8_count_56 : decode cX8_count 56 = .ok (.aload_n 0, 1) := by decide +kernel
theorem dX8_count_57 : decode cX8_count 57 = .ok (.getfield 58, 3) := by decide +kernel
theorem dX8_count_60 : decode cX8_count 60 = .ok (.ireturn, 1) := by decide +kernel
theorem dX8_count_61 : decode cX8_count 61 = .ok (.aload_n 0, 1) := by decide +kernel
theorem dX8_count_62 : decode cX8_count 62 = .ok (.getfield 10, 3) := by decide +kernel
theorem dX8_count_65 : decode cX8_count 65 = .ok (.getfield 89, 3) := by decide +kernel
theorem dX8_count_68 : decode cX8_count 68 = .ok (.ireturn, 1) := by decide +kernel
theorem dX8_count_69 : decode cX8_count 69 = .ok (.aload_n 0, 1) := by decide +kernel
theorem dX8_count_70 : decode cX8_count 70 = .ok (.getfield 65, 3) := by decide +kernel
theorem dX8_count_73 : decode cX8_count 73 = .ok (.getfield 105, 3) := by decide +kernel
theorem dX8_count_76 : decode cX8_count 76 = .ok (.ireturn, 1) := by decide +kernel
theorem dX8_count_77 : decode cX8_count 77 = .ok (.aload_n 0, 1) := by decide +kernel
theorem dX8_count_78 : decode cX8_count 78 = .ok (.getfield 65, 3) := by decide +kernel
theorem dX8_count_81 : decode cX8_count 81 = .ok (.iconst 1, 1) := by decide +kernel
theorem dX8_count_82 : decode cX8_count 82 = .ok (.invokevirtual 265, 3) := by decide +kernel
theorem dX8_count_85 : decode cX8_count 85 = .ok (.ireturn, 1) := by decide +kernel
theorem dX8_count_86 : decode cX8_count 86 = .ok (.aload_n 0, 1) := by decide +kernel
theorem dX8_count_87 : decode cX8_count 87 = .ok (.getfield 65, 3) := by decide +kernel
theorem dX8_count_90 : decode cX8_count 90 = .ok (.iconst 2, 1) := by decide +kernel
theorem dX8_count_91 : decode cX8_count 91 = .ok (.invokevirtual 265, 3) := by decide +kernel
theorem dX8_count_94 : decode cX8_count 94 = .ok (.ireturn, 1) := by decide +kernel
theorem dX8_count_95 : decode cX8_count 95 = .ok (.aload_n 0, 1) := by decide +kernel
theorem dX8_count_96 : decode cX8_count 96 = .ok (.getfield 74, 3) := by decide +kernel
theorem dX8_count_99 : decode cX8_count 99 = .ok (.invokevirtual 268, 3) := by decide +kernel
theorem dX8_count_102 : decode cX8_count 102 = .ok (.ireturn, 1) := by decide +kernel
theorem dX8_count_103 : decode cX8_count 103 = .ok (.aload_n 0, 1) := by decide +kernel
theorem dX8_count_104 : decode cX8_count 104 = .ok (.getfield 26, 3) := by decide +kernel
theorem dX8_count_107 : decode cX8_count 107 = .ok (.getfield 201, 3) := by decide +kernel
theorem dX8_count_110 : decode cX8_count 110 = .ok (.ireturn, 1) := by decide +kernel
theorem dX8_count_111 : decode cX8_count 111 = .ok (.aload_n 0, 1) := by decide +kernel
theorem dX8_count_112 : decode cX8_count 112 = .ok (.getfield 40, 3) := by decide +kernel
theorem dX8_count_115 : decode cX8_count 115 = .ok (.getfield 223, 3) := by decide +kernel
theorem dX8_count_118 : decode cX8_count 118 = .ok (.ireturn, 1) := by decide +kernel
theorem dX8_count_119 : decode cX8_count 119 = .ok (.aload_n 0, 1) := by decide +kernel
theorem dX8_count_120 : decode cX8_count 120 = .ok (.getfield 47, 3) := by decide +kernel
theorem dX8_count_123 : decode cX8_count 123 = .ok (.getfield 230, 3) := by decide +kernel
theorem dX8_count_126 : decode cX8_count 126 = .ok (.ireturn, 1) := by decide +kernel
theorem dX8_count_127 : decode cX8_count 127 = .ok (.aload_n 0, 1) := by decide +kernel
theorem dX8_count_128 : decode cX8_count 128 = .ok (.getfield 10, 3) := by decide +kernel
theorem dX8_count_131 : decode cX8_count 131 = .ok (.invokevirtual 271, 3) := by decide +kernel
theorem dX8_count_134 : decode cX8_count 134 = .ok (.ireturn, 1) := by decide +kernel
theorem dX8_count_135 : decode cX8_count 135 = .ok (.iload_n 1, 1) := by decide +kernel
theorem dX8_count_136 : decode cX8_count 136 = .ok (.bipush 11, 2) := by decide +kernel
theorem dX8_count_138 : decode cX8_count 138 = .ok (.if_icmp .lt 21, 3) := by decide +kernel
theorem dX8_count_141 : decode cX8_count 141 = .ok (.iload_n 1, 1) := by decide +kernel
theorem dX8_count_142 : decode cX8_count 142 = .ok (.bipush 16, 2) := by decide +kernel
theorem dX8_count_144 : decode cX8_count 144 = .ok (.if_icmp .gt 15, 3) := by decide +kernel
theorem dX8_count_147 : decode cX8_count 147 = .ok (.aload_n 0, 1) := by decide +kernel
theorem dX8_count_148 : decode cX8_count 148 = .ok (.getfield 55, 3) := by decide +kernel
theorem dX8_count_151 : decode cX8_count 151 = .ok (.iload_n 1, 1) := by decide +kernel
theorem dX8_count_152 : decode cX8_count 152 = .ok (.bipush 10, 2) := by decide +kernel
theorem dX8_count_154 : decode cX8_count 154 = .ok (.isub, 1) := by decide +kernel
theorem dX8_count_155 : decode cX8_count 155 = .ok (.iaload, 1) := by decide +kernel
theorem dX8_count_156 : decode cX8_count 156 = .ok (.goto 5, 3) := by decide +kernel
theorem dX8_count_159 : decode cX8_count 159 = .ok (.bipush (-9), 2) := by decide +kernel
theorem dX8_count_161 : decode cX8_count 161 = .ok (.ireturn, 1) := by decide +kernel
theorem dX8_refuse_0 : decode cX8_refuse 0 = .ok (.iload_n 1, 1) := by decide +kernel
theorem dX8_refuse_1 : decode cX8_refuse 1 = .ok (.ineg, 1) := by decide +kernel
theorem dX8_refuse_2 : decode cX8_refuse 2 = .ok (.istore_n 2, 1) := by decide +kernel
theorem dX8_refuse_3 : decode cX8_refuse 3 = .ok (.iload_n 2, 1) := by decide +kernel
theorem dX8_refuse_4 : decode cX8_refuse 4 = .ok (.ifCond .lt 22, 3) := by decide +kernel
theorem dX8_refuse_7 : decode cX8_refuse 7 = .ok (.iload_n 2, 1) := by decide +kernel
theorem dX8_refuse_8 : decode cX8_refuse 8 = .ok (.aload_n 0, 1) := by decide +kernel
theorem dX8_refuse_9 : decode cX8_refuse 9 = .ok (.getfield 55, 3) := by decide +kernel
theorem dX8_refuse_12 : decode cX8_refuse 12 = .ok (.arraylength, 1) := by decide +kernel
theorem dX8_refuse_13 : decode cX8_refuse 13 = .ok (.if_icmp .ge 13, 3) := by decide +kernel
theorem dX8_refuse_16 : decode cX8_refuse 16 = .ok (.aload_n 0, 1) := by decide +kernel
theorem dX8_refuse_17 : decode cX8_refuse 17 = .ok (.getfield 55, 3) := by decide +kernel
theorem dX8_refuse_20 : decode cX8_refuse 20 = .ok (.iload_n 2, 1) := by decide +kernel
theorem dX8_refuse_21 : decode cX8_refuse 21 = .ok (.dup2, 1) := by decide +kernel
theorem dX8_refuse_22 : decode cX8_refuse 22 = .ok (.iaload, 1) := by decide +kernel
theorem dX8_refuse_23 : decode cX8_refuse 23 = .ok (.iconst 1, 1) := by decide +kernel
theorem dX8_refuse_24 : decode cX8_refuse 24 = .ok (.iadd, 1) := by decide +kernel
theorem dX8_refuse_25 : decode cX8_refuse 25 = .ok (.iastore, 1) := by decide +kernel
theorem dX8_refuse_26 : decode cX8_refuse 26 = .ok (.iload_n 1, 1) := by decide +kernel
theorem dX8_refuse_27 : decode cX8_refuse 27 = .ok (.ireturn, 1) := by decide +kernel
theorem dX8_isShop_0 : decode cX8_isShop 0 = .ok (.iload_n 0, 1) := by decide +kernel
theorem dX8_isShop_1 : decode cX8_isShop 1 = .ok (.ifCond .lt 13, 3) := by decide +kernel
theorem dX8_isShop_4 : decode cX8_isShop 4 = .ok (.iload_n 0, 1) := by decide +kernel
theorem dX8_isShop_5 : decode cX8_isShop 5 = .ok (.bipush 8, 2) := by decide +kernel
theorem dX8_isShop_7 : decode cX8_isShop 7 = .ok (.if_icmp .ge 7, 3) := by decide +kernel
theorem dX8_isShop_10 : decode cX8_isShop 10 = .ok (.iconst 1, 1) := by decide +kernel
theorem dX8_isShop_11 : decode cX8_isShop 11 = .ok (.goto 4, 3) := by decide +kernel
theorem dX8_isShop_14 : decode cX8_isShop 14 = .ok (.iconst 0, 1) := by decide +kernel
theorem dX8_isShop_15 : decode cX8_isShop 15 = .ok (.ireturn, 1) := by decide +kernel
theorem dX8_areMarks_0 : decode cX8_areMarks 0 = .ok (.iload_n 0, 1) := by decide +kernel
theorem dX8_areMarks_1 : decode cX8_areMarks 1 = .ok (.ifCond .le 14, 3) := by decide +kernel
theorem dX8_areMarks_4 : decode cX8_areMarks 4 = .ok (.iload_n 0, 1) := by decide +kernel
theorem dX8_areMarks_5 : decode cX8_areMarks 5 = .ok (.ldc_w 274, 3) := by decide +kernel
theorem dX8_areMarks_8 : decode cX8_areMarks 8 = .ok (.if_icmp .gt 7, 3) := by decide +kernel
theorem dX8_areMarks_11 : decode cX8_areMarks 11 = .ok (.iconst 1, 1) := by decide +kernel
theorem dX8_areMarks_12 : decode cX8_areMarks 12 = .ok (.goto 4, 3) := by decide +kernel
theorem dX8_areMarks_15 : decode cX8_areMarks 15 = .ok (.iconst 0, 1) := by decide +kernel
theorem dX8_areMarks_16 : decode cX8_areMarks 16 = .ok (.ireturn, 1) := by decide +kernel
theorem dX8_isBench_0 : decode cX8_isBench 0 = .ok (.iload_n 0, 1) := by decide +kernel
theorem dX8_isBench_1 : decode cX8_isBench 1 = .ok (.ifCond .lt 13, 3) := by decide +kernel
theorem dX8_isBench_4 : decode cX8_isBench 4 = .ok (.iload_n 0, 1) := by decide +kernel
theorem dX8_isBench_5 : decode cX8_isBench 5 = .ok (.bipush 10, 2) := by decide +kernel
theorem dX8_isBench_7 : decode cX8_isBench 7 = .ok (.if_icmp .ge 7, 3) := by decide +kernel
theorem dX8_isBench_10 : decode cX8_isBench 10 = .ok (.iconst 1, 1) := by decide +kernel
theorem dX8_isBench_11 : decode cX8_isBench 11 = .ok (.goto 4, 3) := by decide +kernel
theorem dX8_isBench_14 : decode cX8_isBench 14 = .ok (.iconst 0, 1) := by decide +kernel
theorem dX8_isBench_15 : decode cX8_isBench 15 = .ok (.ireturn, 1) := by decide +kernel
theorem dX8_isHand_0 : decode cX8_isHand 0 = .ok (.iload_n 1, 1) := by decide +kernel
theorem dX8_isHand_1 : decode cX8_isHand 1 = .ok (.ifCond .lt 18, 3) := by decide +kernel
theorem dX8_isHand_4 : decode cX8_isHand 4 = .ok (.iload_n 1, 1) := by decide +kernel
theorem dX8_isHand_5 : decode cX8_isHand 5 = .ok (.aload_n 0, 1) := by decide +kernel
theorem dX8_isHand_6 : decode cX8_isHand 6 = .ok (.getfield 10, 3) := by decide +kernel
theorem dX8_isHand_9 : decode cX8_isHand 9 = .ok (.getfield 89, 3) := by decide +kernel
theorem dX8_isHand_12 : decode cX8_isHand 12 = .ok (.if_icmp .ge 7, 3) := by decide +kernel
theorem dX8_isHand_15 : decode cX8_isHand 15 = .ok (.iconst 1, 1) := by decide +kernel
theorem dX8_isHand_16 : decode cX8_isHand 16 = .ok (.goto 4, 3) := by decide +kernel
theorem dX8_isHand_19 : decode cX8_isHand 19 = .ok (.iconst 0, 1) := by decide +kernel
theorem dX8_isHand_20 : decode cX8_isHand 20 = .ok (.ireturn, 1) := by decide +kernel
theorem dX8_isIdea_0 : decode cX8_isIdea 0 = .ok (.iload_n 1, 1) := by decide +kernel
theorem dX8_isIdea_1 : decode cX8_isIdea 1 = .ok (.ifCond .lt 18, 3) := by decide +kernel
theorem dX8_isIdea_4 : decode cX8_isIdea 4 = .ok (.iload_n 1, 1) := by decide +kernel
theorem dX8_isIdea_5 : decode cX8_isIdea 5 = .ok (.aload_n 0, 1) := by decide +kernel
theorem dX8_isIdea_6 : decode cX8_isIdea 6 = .ok (.getfield 65, 3) := by decide +kernel
theorem dX8_isIdea_9 : decode cX8_isIdea 9 = .ok (.getfield 105, 3) := by decide +kernel
theorem dX8_isIdea_12 : decode cX8_isIdea 12 = .ok (.if_icmp .ge 7, 3) := by decide +kernel
theorem dX8_isIdea_15 : decode cX8_isIdea 15 = .ok (.iconst 1, 1) := by decide +kernel
theorem dX8_isIdea_16 : decode cX8_isIdea 16 = .ok (.goto 4, 3) := by decide +kernel
theorem dX8_isIdea_19 : decode cX8_isIdea 19 = .ok (.iconst 0, 1) := by decide +kernel
theorem dX8_isIdea_20 : decode cX8_isIdea 20 = .ok (.ireturn, 1) := by decide +kernel
theorem dX8_has_0 : decode cX8_has 0 = .ok (.lload_n 0, 1) := by decide +kernel
theorem dX8_has_1 : decode cX8_has 1 = .ok (.iload_n 2, 1) := by decide +kernel
theorem dX8_has_2 : decode cX8_has 2 = .ok (.lushr, 1) := by decide +kernel
theorem dX8_has_3 : decode cX8_has 3 = .ok (.lconst 1, 1) := by decide +kernel
theorem dX8_has_4 : decode cX8_has 4 = .ok (.land, 1) := by decide +kernel
theorem dX8_has_5 : decode cX8_has 5 = .ok (.lconst 0, 1) := by decide +kernel
theorem dX8_has_6 : decode cX8_has 6 = .ok (.lcmp, 1) := by decide +kernel
theorem dX8_has_7 : decode cX8_has 7 = .ok (.ifCond .eq 7, 3) := by decide +kernel
theorem dX8_has_10 : decode cX8_has 10 = .ok (.iconst 1, 1) := by decide +kernel
theorem dX8_has_11 : decode cX8_has 11 = .ok (.goto 4, 3) := by decide +kernel
theorem dX8_has_14 : decode cX8_has 14 = .ok (.iconst 0, 1) := by decide +kernel
theorem dX8_has_15 : decode cX8_has 15 = .ok (.ireturn, 1) := by decide +kernel
theorem dX8_without_0 : decode cX8_without 0 = .ok (.iload_n 2, 1) := by decide +kernel
theorem dX8_without_1 : decode cX8_without 1 = .ok (.bipush (-9), 2) := by decide +kernel
theorem dX8_without_3 : decode cX8_without 3 = .ok (.if_icmp .ne 7, 3) := by decide +kernel
theorem dX8_without_6 : decode cX8_without 6 = .ok (.lload_n 0, 1) := by decide +kernel
theorem dX8_without_7 : decode cX8_without 7 = .ok (.goto 12, 3) := by decide +kernel
theorem dX8_without_10 : decode cX8_without 10 = .ok (.lload_n 0, 1) := by decide +kernel
theorem dX8_without_11 : decode cX8_without 11 = .ok (.lconst 1, 1) := by decide +kernel
theorem dX8_without_12 : decode cX8_without 12 = .ok (.iload_n 2, 1) := by decide +kernel
theorem dX8_without_13 : decode cX8_without 13 = .ok (.lshl, 1) := by decide +kernel
theorem dX8_without_14 : decode cX8_without 14 = .ok (.ldc2_w 275, 3) := by decide +kernel
theorem dX8_without_17 : decode cX8_without 17 = .ok (.lxor, 1) := by decide +kernel
theorem dX8_without_18 : decode cX8_without 18 = .ok (.land, 1) := by decide +kernel
theorem dX8_without_19 : decode cX8_without 19 = .ok (.lreturn, 1) := by decide +kernel
theorem dX8_likeness_0 : decode cX8_likeness 0 = .ok (.iconst 3, 1) := by decide +kernel
theorem dX8_likeness_1 : decode cX8_likeness 1 = .ok (.iload_n 0, 1) := by decide +kernel
theorem dX8_likeness_2 : decode cX8_likeness 2 = .ok (.iload_n 1, 1) := by decide +kernel
theorem dX8_likeness_3 : decode cX8_likeness 3 = .ok (.iand, 1) := by decide +kernel
theorem dX8_likeness_4 : decode cX8_likeness 4 = .ok (.invokestatic 277, 3) := by decide +kernel
theorem dX8_likeness_7 : decode cX8_likeness 7 = .ok (.imul, 1) := by decide +kernel
theorem dX8_likeness_8 : decode cX8_likeness 8 = .ok (.iload_n 0, 1) := by decide +kernel
theorem dX8_likeness_9 : decode cX8_likeness 9 = .ok (.iload_n 1, 1) := by decide +kernel
theorem dX8_likeness_10 : decode cX8_likeness 10 = .ok (.ixor, 1) := by decide +kernel
theorem dX8_likeness_11 : decode cX8_likeness 11 = .ok (.invokestatic 277, 3) := by decide +kernel
theorem dX8_likeness_14 : decode cX8_likeness 14 = .ok (.isub, 1) := by decide +kernel
theorem dX8_likeness_15 : decode cX8_likeness 15 = .ok (.ireturn, 1) := by decide +kernel
theorem dX8_payFor_0 : decode cX8_payFor 0 = .ok (.iload_n 0, 1) := by decide +kernel
theorem dX8_payFor_1 : decode cX8_payFor 1 = .ok (.iload_n 1, 1) := by decide +kernel
theorem dX8_payFor_2 : decode cX8_payFor 2 = .ok (.imul, 1) := by decide +kernel
theorem dX8_payFor_3 : decode cX8_payFor 3 = .ok (.bipush 100, 2) := by decide +kernel
theorem dX8_payFor_5 : decode cX8_payFor 5 = .ok (.idiv, 1) := by decide +kernel
theorem dX8_payFor_6 : decode cX8_payFor 6 = .ok (.iload_n 2, 1) := by decide +kernel
theorem dX8_payFor_7 : decode cX8_payFor 7 = .ok (.invokestatic 282, 3) := by decide +kernel
theorem dX8_payFor_10 : decode cX8_payFor 10 = .ok (.ireturn, 1) := by decide +kernel
theorem dX8_judgesFor_0 : decode cX8_judgesFor 0 = .ok (.aload_n 0, 1) := by decide +kernel
theorem dX8_judgesFor_1 : decode cX8_judgesFor 1 = .ok (.getfield 10, 3) := by decide +kernel
theorem dX8_judgesFor_4 : decode cX8_judgesFor 4 = .ok (.aload_n 0, 1) := by decide +kernel
theorem dX8_judgesFor_5 : decode cX8_judgesFor 5 = .ok (.getfield 74, 3) := by decide +kernel
theorem dX8_judgesFor_8 : decode cX8_judgesFor 8 = .ok (.aload_n 0, 1) := by decide +kernel
theorem dX8_judgesFor_9 : decode cX8_judgesFor 9 = .ok (.getfield 74, 3) := by decide +kernel
theorem dX8_judgesFor_12 : decode cX8_judgesFor 12 = .ok (.getfield 148, 3) := by decide +kernel
theorem dX8_judgesFor_15 : decode cX8_judgesFor 15 = .ok (.iload_n 1, 1) := by decide +kernel
theorem dX8_judgesFor_16 : decode cX8_judgesFor 16 = .ok (.iaload, 1) := by decide +kernel
theorem dX8_judgesFor_17 : decode cX8_judgesFor 17 = .ok (.invokevirtual 287, 3) := by decide +kernel
theorem dX8_judgesFor_20 : decode cX8_judgesFor 20 = .ok (.invokevirtual 288, 3) := by decide +kernel
theorem dX8_judgesFor_23 : decode cX8_judgesFor 23 = .ok (.lstore_n 2, 1) := by decide +kernel
theorem dX8_judgesFor_24 : decode cX8_judgesFor 24 = .ok (.aload_n 0, 1) := by decide +kernel
theorem dX8_judgesFor_25 : decode cX8_judgesFor 25 = .ok (.getfield 10, 3) := by decide +kernel
theorem dX8_judgesFor_28 : decode cX8_judgesFor 28 = .ok (.aload_n 0, 1) := by decide +kernel
theorem dX8_judgesFor_29 : decode cX8_judgesFor 29 = .ok (.getfield 65, 3) := by decide +kernel
theorem dX8_judgesFor_32 : decode cX8_judgesFor 32 = .ok (.getfield 200, 3) := by decide +kernel
theorem dX8_judgesFor_35 : decode cX8_judgesFor 35 = .ok (.iload_n 1, 1) := by decide +kernel
theorem dX8_judgesFor_36 : decode cX8_judgesFor 36 = .ok (.iaload, 1) := by decide +kernel
theorem dX8_judgesFor_37 : decode cX8_judgesFor 37 = .ok (.invokevirtual 292, 3) := by decide +kernel
theorem dX8_judgesFor_40 : decode cX8_judgesFor 40 = .ok (.lload_n 2, 1) := by decide +kernel
theorem dX8_judgesFor_41 : decode cX8_judgesFor 41 = .ok (.ldc2_w 275, 3) := by decide +kernel
theorem dX8_judgesFor_44 : decode cX8_judgesFor 44 = .ok (.lxor, 1) := by decide +kernel
theorem dX8_judgesFor_45 : decode cX8_judgesFor 45 = .ok (.land, 1) := by decide +kernel
theorem dX8_judgesFor_46 : decode cX8_judgesFor 46 = .ok (.lreturn, 1) := by decide +kernel
theorem dX8_nameThird_0 : decode cX8_nameThird 0 = .ok (.aload_n 0, 1) := by decide +kernel
theorem dX8_nameThird_1 : decode cX8_nameThird 1 = .ok (.getfield 10, 3) := by decide +kernel
theorem dX8_nameThird_4 : decode cX8_nameThird 4 = .ok (.lload_n 1, 1) := by decide +kernel
theorem dX8_nameThird_5 : decode cX8_nameThird 5 = .ok (.invokevirtual 164, 3) := by decide +kernel
theorem dX8_nameThird_8 : decode cX8_nameThird 8 = .ok (.istore_n 3, 1) := by decide +kernel
theorem dX8_nameThird_9 : decode cX8_nameThird 9 = .ok (.iload_n 3, 1) := by decide +kernel
theorem dX8_nameThird_10 : decode cX8_nameThird 10 = .ok (.bipush (-9), 2) := by decide +kernel
theorem dX8_nameThird_12 : decode cX8_nameThird 12 = .ok (.if_icmp .ne 5, 3) := by decide +kernel
theorem dX8_nameThird_15 : decode cX8_nameThird 15 = .ok (.iconst 0, 1) := by decide +kernel
theorem dX8_nameThird_16 : decode cX8_nameThird 16 = .ok (.ireturn, 1) := by decide +kernel
theorem dX8_nameThird_17 : decode cX8_nameThird 17 = .ok (.aload_n 0, 1) := by decide +kernel
theorem dX8_nameThird_18 : decode cX8_nameThird 18 = .ok (.getfield 10, 3) := by decide +kernel
theorem dX8_nameThird_21 : decode cX8_nameThird 21 = .ok (.getfield 175, 3) := by decide +kernel
theorem dX8_nameThird_24 : decode cX8_nameThird 24 = .ok (.iload_n 3, 1) := by decide +kernel
theorem dX8_nameThird_25 : decode cX8_nameThird 25 = .ok (.dup2, 1) := by decide +kernel
theorem dX8_nameThird_26 : decode cX8_nameThird 26 = .ok (.iaload, 1) := by decide +kernel
theorem dX8_nameThird_27 : decode cX8_nameThird 27 = .ok (.iconst 1, 1) := by decide +kernel
theorem dX8_nameThird_28 : decode cX8_nameThird 28 = .ok (.iadd, 1) := by decide +kernel
theorem dX8_nameThird_29 : decode cX8_nameThird 29 = .ok (.iastore, 1) := by decide +kernel
theorem dX8_nameThird_30 : decode cX8_nameThird 30 = .ok (.iconst 1, 1) := by decide +kernel
theorem dX8_nameThird_31 : decode cX8_nameThird 31 = .ok (.ireturn, 1) := by decide +kernel
theorem dX8_takeFamily_0 : decode cX8_takeFamily 0 = .ok (.iconst 0, 1) := by decide +kernel
theorem dX8_takeFamily_1 : decode cX8_takeFamily 1 = .ok (.istore_n 2, 1) := by decide +kernel
theorem dX8_takeFamily_2 : decode cX8_takeFamily 2 = .ok (.iload_n 2, 1) := by decide +kernel
theorem dX8_takeFamily_3 : decode cX8_takeFamily 3 = .ok (.aload_n 0, 1) := by decide +kernel
theorem dX8_takeFamily_4 : decode cX8_takeFamily 4 = .ok (.getfield 65, 3) := by decide +kernel
theorem dX8_takeFamily_7 : decode cX8_takeFamily 7 = .ok (.getfield 105, 3) := by decide +kernel
theorem dX8_takeFamily_10 : decode cX8_takeFamily 10 = .ok (.if_icmp .ge 41, 3) := by decide +kernel
theorem dX8_takeFamily_13 : decode cX8_takeFamily 13 = .ok (.aload_n 0, 1) := by decide +kernel
theorem dX8_takeFamily_14 : decode cX8_takeFamily 14 = .ok (.getfield 74, 3) := by decide +kernel
theorem dX8_takeFamily_17 : decode cX8_takeFamily 17 = .ok (.getfield 148, 3) := by decide +kernel
theorem dX8_takeFamily_20 : decode cX8_takeFamily 20 = .ok (.iload_n 2, 1) := by decide +kernel
theorem dX8_takeFamily_21 : decode cX8_takeFamily 21 = .ok (.iaload, 1) := by decide +kernel
theorem dX8_takeFamily_22 : decode cX8_takeFamily 22 = .ok (.iload_n 1, 1) := by decide +kernel
theorem dX8_takeFamily_23 : decode cX8_takeFamily 23 = .ok (.if_icmp .ne 22, 3) := by decide +kernel
theorem dX8_takeFamily_26 : decode cX8_takeFamily 26 = .ok (.aload_n 0, 1) := by decide +kernel
theorem dX8_takeFamily_27 : decode cX8_takeFamily 27 = .ok (.getfield 65, 3) := by decide +kernel
theorem dX8_takeFamily_30 : decode cX8_takeFamily 30 = .ok (.getfield 172, 3) := by decide +kernel
theorem dX8_takeFamily_33 : decode cX8_takeFamily 33 = .ok (.iload_n 2, 1) := by decide +kernel
theorem dX8_takeFamily_34 : decode cX8_takeFamily 34 = .ok (.iaload, 1) := by decide +kernel
theorem dX8_takeFamily_35 : decode cX8_takeFamily 35 = .ok (.ifCond .ne 10, 3) := by decide +kernel
theorem dX8_takeFamily_38 : decode cX8_takeFamily 38 = .ok (.aload_n 0, 1) := by decide +kernel
theorem dX8_takeFamily_39 : decode cX8_takeFamily 39 = .ok (.iload_n 2, 1) := by decide +kernel
theorem dX8_takeFamily_40 : decode cX8_takeFamily 40 = .ok (.iconst 1, 1) := by decide +kernel
theorem dX8_takeFamily_41 : decode cX8_takeFamily 41 = .ok (.invokevirtual 185, 3) := by decide +kernel
theorem dX8_takeFamily_44 : decode cX8_takeFamily 44 = .ok (.pop, 1) := by decide +kernel
theorem dX8_takeFamily_45 : decode cX8_takeFamily 45 = .ok (.iinc 2 1, 3) := by decide +kernel
theorem dX8_takeFamily_48 : decode cX8_takeFamily 48 = .ok (.goto (-46), 3) := by decide +kernel
theorem dX8_takeFamily_51 : decode cX8_takeFamily 51 = .ok (.return_, 1) := by decide +kernel
theorem dX8_settle_0 : decode cX8_settle 0 = .ok (.aload_n 0, 1) := by decide +kernel
theorem dX8_settle_1 : decode cX8_settle 1 = .ok (.getfield 65, 3) := by decide +kernel
theorem dX8_settle_4 : decode cX8_settle 4 = .ok (.getfield 172, 3) := by decide +kernel
theorem dX8_settle_7 : decode cX8_settle 7 = .ok (.iload_n 1, 1) := by decide +kernel
theorem dX8_settle_8 : decode cX8_settle 8 = .ok (.iload_n 2, 1) := by decide +kernel
theorem dX8_settle_9 : decode cX8_settle 9 = .ok (.iastore, 1) := by decide +kernel
theorem dX8_settle_10 : decode cX8_settle 10 = .ok (.aload_n 0, 1) := by decide +kernel
theorem dX8_settle_11 : decode cX8_settle 11 = .ok (.getfield 65, 3) := by decide +kernel
theorem dX8_settle_14 : decode cX8_settle 14 = .ok (.getfield 258, 3) := by decide +kernel
theorem dX8_settle_17 : decode cX8_settle 17 = .ok (.iload_n 1, 1) := by decide +kernel
theorem dX8_settle_18 : decode cX8_settle 18 = .ok (.aload_n 0, 1) := by decide +kernel
theorem dX8_settle_19 : decode cX8_settle 19 = .ok (.getfield 58, 3) := by decide +kernel
theorem dX8_settle_22 : decode cX8_settle 22 = .ok (.iastore, 1) := by decide +kernel
theorem dX8_settle_23 : decode cX8_settle 23 = .ok (.iconst 0, 1) := by decide +kernel
theorem dX8_settle_24 : decode cX8_settle 24 = .ok (.aload_n 0, 1) := by decide +kernel
theorem dX8_settle_25 : decode cX8_settle 25 = .ok (.getfield 58, 3) := by decide +kernel
theorem dX8_settle_28 : decode cX8_settle 28 = .ok (.aload_n 0, 1) := by decide +kernel
theorem dX8_settle_29 : decode cX8_settle 29 = .ok (.getfield 65, 3) := by decide +kernel
theorem dX8_settle_32 : decode cX8_settle 32 = .ok (.getfield 255, 3) := by decide +kernel
theorem dX8_settle_35 : decode cX8_settle 35 = .ok (.iload_n 1, 1) := by decide +kernel
theorem dX8_settle_36 : decode cX8_settle 36 = .ok (.iaload, 1) := by decide +kernel
theorem dX8_settle_37 : decode cX8_settle 37 = .ok (.isub, 1) := by decide +kernel
theorem dX8_settle_38 : decode cX8_settle 38 = .ok (.aload_n 0, 1) := by decide +kernel
theorem dX8_settle_39 : decode cX8_settle 39 = .ok (.getfield 51, 3) := by decide +kernel
theorem dX8_settle_42 : decode cX8_settle 42 = .ok (.iconst 2, 1) := by decide +kernel
theorem dX8_settle_43 : decode cX8_settle 43 = .ok (.iaload, 1) := by decide +kernel
theorem dX8_settle_44 : decode cX8_settle 44 = .ok (.isub, 1) := by decide +kernel
theorem dX8_settle_45 : decode cX8_settle 45 = .ok (.invokestatic 295, 3) := by decide +kernel
theorem dX8_settle_48 : decode cX8_settle 48 = .ok (.istore_n 3, 1) := by decide +kernel
theorem dX8_settle_49 : decode cX8_settle 49 = .ok (.iload_n 3, 1) := by decide +kernel
theorem dX8_settle_50 : decode cX8_settle 50 = .ok (.aload_n 0, 1) := by decide +kernel
theorem dX8_settle_51 : decode cX8_settle 51 = .ok (.getfield 51, 3) := by decide +kernel
theorem dX8_settle_54 : decode cX8_settle 54 = .ok (.iconst 3, 1) := by decide +kernel
theorem dX8_settle_55 : decode cX8_settle 55 = .ok (.iaload, 1) := by decide +kernel
theorem dX8_settle_56 : decode cX8_settle 56 = .ok (.imul, 1) := by decide +kernel
theorem dX8_settle_57 : decode cX8_settle 57 = .ok (.istore 4, 2) := by decide +kernel
theorem dX8_settle_59 : decode cX8_settle 59 = .ok (.aload_n 0, 1) := by decide +kernel
theorem dX8_settle_60 : decode cX8_settle 60 = .ok (.getfield 10, 3) := by decide +kernel
theorem dX8_settle_63 : decode cX8_settle 63 = .ok (.getfield 252, 3) := by decide +kernel
theorem dX8_settle_66 : decode cX8_settle 66 = .ok (.aload_n 0, 1) := by decide +kernel
theorem dX8_settle_67 : decode cX8_settle 67 = .ok (.getfield 65, 3) := by decide +kernel
theorem dX8_settle_70 : decode cX8_settle 70 = .ok (.getfield 298, 3) := by decide +kernel
theorem dX8_settle_73 : decode cX8_settle 73 = .ok (.iload_n 1, 1) := by decide +kernel
theorem dX8_settle_74 : decode cX8_settle 74 = .ok (.iaload, 1) := by decide +kernel
theorem dX8_settle_75 : decode cX8_settle 75 = .ok (.dup2, 1) := by decide +kernel
theorem dX8_settle_76 : decode cX8_settle 76 = .ok (.iaload, 1) := by decide +kernel
theorem dX8_settle_77 : decode cX8_settle 77 = .ok (.iload 4, 2) := by decide +kernel
theorem dX8_settle_79 : decode cX8_settle 79 = .ok (.iadd, 1) := by decide +kernel
theorem dX8_settle_80 : decode cX8_settle 80 = .ok (.iastore, 1) := by decide +kernel
theorem dX8_settle_81 : decode cX8_settle 81 = .ok (.iload 4, 2) := by decide +kernel
theorem dX8_settle_83 : decode cX8_settle 83 = .ok (.ireturn, 1) := by decide +kernel
theorem dX8_ruleFor_0 : decode cX8_ruleFor 0 = .ok (.aload_n 0, 1) := by decide +kernel
theorem dX8_ruleFor_1 : decode cX8_ruleFor 1 = .ok (.getfield 40, 3) := by decide +kernel
theorem dX8_ruleFor_4 : decode cX8_ruleFor 4 = .ok (.aload_n 0, 1) := by decide +kernel
theorem dX8_ruleFor_5 : decode cX8_ruleFor 5 = .ok (.getfield 65, 3) := by decide +kernel
theorem dX8_ruleFor_8 : decode cX8_ruleFor 8 = .ok (.getfield 255, 3) := by decide +kernel
theorem dX8_ruleFor_11 : decode cX8_ruleFor 11 = .ok (.aload_n 0, 1) := by decide +kernel
theorem dX8_ruleFor_12 : decode cX8_ruleFor 12 = .ok (.getfield 74, 3) := by decide +kernel
theorem dX8_ruleFor_15 : decode cX8_ruleFor 15 = .ok (.aload_n 0, 1) := by decide +kernel
theorem dX8_ruleFor_16 : decode cX8_ruleFor 16 = .ok (.getfield 74, 3) := by decide +kernel
theorem dX8_ruleFor_19 : decode cX8_ruleFor 19 = .ok (.getfield 148, 3) := by decide +kernel
theorem dX8_ruleFor_22 : decode cX8_ruleFor 22 = .ok (.iload_n 1, 1) := by decide +kernel
theorem dX8_ruleFor_23 : decode cX8_ruleFor 23 = .ok (.iaload, 1) := by decide +kernel
theorem dX8_ruleFor_24 : decode cX8_ruleFor 24 = .ok (.invokevirtual 151, 3) := by decide +kernel
theorem dX8_ruleFor_27 : decode cX8_ruleFor 27 = .ok (.iaload, 1) := by decide +kernel
theorem dX8_ruleFor_28 : decode cX8_ruleFor 28 = .ok (.invokevirtual 301, 3) := by decide +kernel
theorem dX8_ruleFor_31 : decode cX8_ruleFor 31 = .ok (.ireturn, 1) := by decide +kernel
theorem dX8_worthOf_0 : decode cX8_worthOf 0 = .ok (.aload_n 0, 1) := by decide +kernel
theorem dX8_worthOf_1 : decode cX8_worthOf 1 = .ok (.getfield 33, 3) := by decide +kernel
theorem dX8_worthOf_4 : decode cX8_worthOf 4 = .ok (.aload_n 0, 1) := by decide +kernel
theorem dX8_worthOf_5 : decode cX8_worthOf 5 = .ok (.getfield 26, 3) := by decide +kernel
theorem dX8_worthOf_8 : decode cX8_worthOf 8 = .ok (.aload_n 1, 1) := by decide +kernel
theorem dX8_worthOf_9 : decode cX8_worthOf 9 = .ok (.iload_n 2, 1) := by decide +kernel
theorem dX8_worthOf_10 : decode cX8_worthOf 10 = .ok (.invokevirtual 205, 3) := by decide +kernel
theorem dX8_worthOf_13 : decode cX8_worthOf 13 = .ok (.iconst 0, 1) := by decide +kernel
theorem dX8_worthOf_14 : decode cX8_worthOf 14 = .ok (.istore_n 3, 1) := by decide +kernel
theorem dX8_worthOf_15 : decode cX8_worthOf 15 = .ok (.iconst 0, 1) := by decide +kernel
theorem dX8_worthOf_16 : decode cX8_worthOf 16 = .ok (.istore 4, 2) := by decide +kernel
theorem dX8_worthOf_18 : decode cX8_worthOf 18 = .ok (.iload 4, 2) := by decide +kernel
theorem dX8_worthOf_20 : decode cX8_worthOf 20 = .ok (.bipush 10, 2) := by decide +kernel
theorem dX8_worthOf_22 : decode cX8_worthOf 22 = .ok (.if_icmp .ge 35, 3) := by decide +kernel
theorem dX8_worthOf_25 : decode cX8_worthOf 25 = .ok (.iload_n 3, 1) := by decide +kernel
theorem dX8_worthOf_26 : decode cX8_worthOf 26 = .ok (.aload_n 0, 1) := by decide +kernel
theorem dX8_worthOf_27 : decode cX8_worthOf 27 = .ok (.getfield 33, 3) := by decide +kernel
theorem dX8_worthOf_30 : decode cX8_worthOf 30 = .ok (.iload 4, 2) := by decide +kernel
theorem dX8_worthOf_32 : decode cX8_worthOf 32 = .ok (.invokevirtual 209, 3) := by decide +kernel
theorem dX8_worthOf_35 : decode cX8_worthOf 35 = .ok (.aload_n 0, 1) := by decide +kernel
theorem dX8_worthOf_36 : decode cX8_worthOf 36 = .ok (.getfield 19, 3) := by decide +kernel
theorem dX8_worthOf_39 : decode cX8_worthOf 39 = .ok (.getfield 197, 3) := by decide +kernel
theorem dX8_worthOf_42 : decode cX8_worthOf 42 = .ok (.iload 4, 2) := by decide +kernel
theorem dX8_worthOf_44 : decode cX8_worthOf 44 = .ok (.iaload, 1) := by decide +kernel
theorem dX8_worthOf_45 : decode cX8_worthOf 45 = .ok (.imul, 1) := by decide +kernel
theorem dX8_worthOf_46 : decode cX8_worthOf 46 = .ok (.bipush 100, 2) := by decide +kernel
theorem dX8_worthOf_48 : decode cX8_worthOf 48 = .ok (.idiv, 1) := by decide +kernel
theorem dX8_worthOf_49 : decode cX8_worthOf 49 = .ok (.iadd, 1) := by decide +kernel
theorem dX8_worthOf_50 : decode cX8_worthOf 50 = .ok (.istore_n 3, 1) := by decide +kernel
theorem dX8_worthOf_51 : decode cX8_worthOf 51 = .ok (.iinc 4 1, 3) := by decide +kernel
theorem dX8_worthOf_54 : decode cX8_worthOf 54 = .ok (.goto (-36), 3) := by decide +kernel
theorem dX8_worthOf_57 : decode cX8_worthOf 57 = .ok (.iconst 0, 1) := by decide +kernel
theorem dX8_worthOf_58 : decode cX8_worthOf 58 = .ok (.iload_n 3, 1) := by decide +kernel
theorem dX8_worthOf_59 : decode cX8_worthOf 59 = .ok (.aload_n 1, 1) := by decide +kernel
theorem dX8_worthOf_60 : decode cX8_worthOf 60 = .ok (.iload_n 2, 1) := by decide +kernel
theorem dX8_worthOf_61 : decode cX8_worthOf 61 = .ok (.invokevirtual 304, 3) := by decide +kernel
theorem dX8_worthOf_64 : decode cX8_worthOf 64 = .ok (.isub, 1) := by decide +kernel
theorem dX8_worthOf_65 : decode cX8_worthOf 65 = .ok (.invokestatic 295, 3) := by decide +kernel
theorem dX8_worthOf_68 : decode cX8_worthOf 68 = .ok (.ireturn, 1) := by decide +kernel
theorem dX8_payYearsSince_0 : decode cX8_payYearsSince 0 = .ok (.aload_n 0, 1) := by decide +kernel
theorem dX8_payYearsSince_1 : decode cX8_payYearsSince 1 = .ok (.getfield 58, 3) := by decide +kernel
theorem dX8_payYearsSince_4 : decode cX8_payYearsSince 4 = .ok (.aload_n 0, 1) := by decide +kernel
theorem dX8_payYearsSince_5 : decode cX8_payYearsSince 5 = .ok (.getfield 65, 3) := by decide +kernel
theorem dX8_payYearsSince_8 : decode cX8_payYearsSince 8 = .ok (.getfield 258, 3) := by decide +kernel
theorem dX8_payYearsSince_11 : decode cX8_payYearsSince 11 = .ok (.iload_n 2, 1) := by decide +kernel
theorem dX8_payYearsSince_12 : decode cX8_payYearsSince 12 = .ok (.iaload, 1) := by decide +kernel
theorem dX8_payYearsSince_13 : decode cX8_payYearsSince 13 = .ok (.isub, 1) := by decide +kernel
theorem dX8_payYearsSince_14 : decode cX8_payYearsSince 14 = .ok (.sipush 360, 3) := by decide +kernel
theorem dX8_payYearsSince_17 : decode cX8_payYearsSince 17 = .ok (.idiv, 1) := by decide +kernel
theorem dX8_payYearsSince_18 : decode cX8_payYearsSince 18 = .ok (.istore_n 3, 1) := by decide +kernel
theorem dX8_payYearsSince_19 : decode cX8_payYearsSince 19 = .ok (.iload_n 1, 1) := by decide +kernel
theorem dX8_payYearsSince_20 : decode cX8_payYearsSince 20 = .ok (.aload_n 0, 1) := by decide +kernel
theorem dX8_payYearsSince_21 : decode cX8_payYearsSince 21 = .ok (.getfield 65, 3) := by decide +kernel
theorem dX8_payYearsSince_24 : decode cX8_payYearsSince 24 = .ok (.getfield 258, 3) := by decide +kernel
theorem dX8_payYearsSince_27 : decode cX8_payYearsSince 27 = .ok (.iload_n 2, 1) := by decide +kernel
theorem dX8_payYearsSince_28 : decode cX8_payYearsSince 28 = .ok (.iaload, 1) := by decide +kernel
theorem dX8_payYearsSince_29 : decode cX8_payYearsSince 29 = .ok (.isub, 1) := by decide +kernel
theorem dX8_payYearsSince_30 : decode cX8_payYearsSince 30 = .ok (.sipush 360, 3) := by decide +kernel
theorem dX8_payYearsSince_33 : decode cX8_payYearsSince 33 = .ok (.idiv, 1) := by decide +kernel
theorem dX8_payYearsSince_34 : decode cX8_payYearsSince 34 = .ok (.istore 4, 2) := by decide +kernel
theorem dX8_payYearsSince_36 : decode cX8_payYearsSince 36 = .ok (.iload_n 3, 1) := by decide +kernel
theorem dX8_payYearsSince_37 : decode cX8_payYearsSince 37 = .ok (.iload 4, 2) := by decide +kernel
theorem dX8_payYearsSince_39 : decode cX8_payYearsSince 39 = .ok (.if_icmp .ne 5, 3) := by decide +kernel
theorem dX8_payYearsSince_42 : decode cX8_payYearsSince 42 = .ok (.iconst 0, 1) := by decide +kernel
theorem dX8_payYearsSince_43 : decode cX8_payYearsSince 43 = .ok (.ireturn, 1) := by decide +kernel
theorem dX8_payYearsSince_44 : decode cX8_payYearsSince 44 = .ok (.aload_n 0, 1) := by decide +kernel
theorem dX8_payYearsSince_45 : decode cX8_payYearsSince 45 = .ok (.iload_n 2, 1) := by decide +kernel
theorem dX8_payYearsSince_46 : decode cX8_payYearsSince 46 = .ok (.invokevirtual 227, 3) := by decide +kernel
theorem dX8_payYearsSince_49 : decode cX8_payYearsSince 49 = .ok (.istore 5, 2) := by decide +kernel
theorem dX8_payYearsSince_51 : decode cX8_payYearsSince 51 = .ok (.iload 5, 2) := by decide +kernel
theorem dX8_payYearsSince_53 : decode cX8_payYearsSince 53 = .ok (.bipush (-9), 2) := by decide +kernel
theorem dX8_payYearsSince_55 : decode cX8_payYearsSince 55 = .ok (.if_icmp .ne 5, 3) := by decide +kernel
theorem dX8_payYearsSince_58 : decode cX8_payYearsSince 58 = .ok (.iconst 0, 1) := by decide +kernel
theorem dX8_payYearsSince_59 : decode cX8_payYearsSince 59 = .ok (.ireturn, 1) := by decide +kernel
theorem dX8_payYearsSince_60 : decode cX8_payYearsSince 60 = .ok (.aload_n 0, 1) := by decide +kernel
theorem dX8_payYearsSince_61 : decode cX8_payYearsSince 61 = .ok (.aload_n 0, 1) := by decide +kernel
theorem dX8_payYearsSince_62 : decode cX8_payYearsSince 62 = .ok (.getfield 74, 3) := by decide +kernel
theorem dX8_payYearsSince_65 : decode cX8_payYearsSince 65 = .ok (.aload_n 0, 1) := by decide +kernel
theorem dX8_payYearsSince_66 : decode cX8_payYearsSince 66 = .ok (.getfield 74, 3) := by decide +kernel
theorem dX8_payYearsSince_69 : decode cX8_payYearsSince 69 = .ok (.getfield 148, 3) := by decide +kernel
theorem dX8_payYearsSince_72 : decode cX8_payYearsSince 72 = .ok (.iload_n 2, 1) := by decide +kernel
theorem dX8_payYearsSince_73 : decode cX8_payYearsSince 73 = .ok (.iaload, 1) := by decide +kernel
theorem dX8_payYearsSince_74 : decode cX8_payYearsSince 74 = .ok (.invokevirtual 219, 3) := by decide +kernel
theorem dX8_payYearsSince_77 : decode cX8_payYearsSince 77 = .ok (.aload_n 0, 1) := by decide +kernel
theorem dX8_payYearsSince_78 : decode cX8_payYearsSince 78 = .ok (.getfield 40, 3) := by decide +kernel
theorem dX8_payYearsSince_81 : decode cX8_payYearsSince 81 = .ok (.getfield 307, 3) := by decide +kernel
theorem dX8_payYearsSince_84 : decode cX8_payYearsSince 84 = .ok (.iload 5, 2) := by decide +kernel
theorem dX8_payYearsSince_86 : decode cX8_payYearsSince 86 = .ok (.iaload, 1) := by decide +kernel
theorem dX8_payYearsSince_87 : decode cX8_payYearsSince 87 = .ok (.aload_n 0, 1) := by decide +kernel
theorem dX8_payYearsSince_88 : decode cX8_payYearsSince 88 = .ok (.getfield 40, 3) := by decide +kernel
theorem dX8_payYearsSince_91 : decode cX8_payYearsSince 91 = .ok (.getfield 310, 3) := by decide +kernel
theorem dX8_payYearsSince_94 : decode cX8_payYearsSince 94 = .ok (.iload 5, 2) := by decide +kernel
theorem dX8_payYearsSince_96 : decode cX8_payYearsSince 96 = .ok (.iaload, 1) := by decide +kernel
theorem dX8_payYearsSince_97 : decode cX8_payYearsSince 97 = .ok (.invokestatic 246, 3) := by decide +kernel
theorem dX8_payYearsSince_100 : decode cX8_payYearsSince 100 = .ok (.istore 6, 2) := by decide +kernel
theorem dX8_payYearsSince_102 : decode cX8_payYearsSince 102 = .ok (.iload 6, 2) := by decide +kernel
theorem dX8_payYearsSince_104 : decode cX8_payYearsSince 104 = .ok (.aload_n 0, 1) := by decide +kernel
theorem dX8_payYearsSince_105 : decode cX8_payYearsSince 105 = .ok (.getfield 74, 3) := by decide +kernel
theorem dX8_payYearsSince_108 : decode cX8_payYearsSince 108 = .ok (.iload_n 2, 1) := by decide +kernel
theorem dX8_payYearsSince_109 : decode cX8_payYearsSince 109 = .ok (.aload_n 0, 1) := by decide +kernel
theorem dX8_payYearsSince_110 : decode cX8_payYearsSince 110 = .ok (.getfield 51, 3) := by decide +kernel
theorem dX8_payYearsSince_113 : decode cX8_payYearsSince 113 = .ok (.iconst 1, 1) := by decide +kernel
theorem dX8_payYearsSince_114 : decode cX8_payYearsSince 114 = .ok (.iaload, 1) := by decide +kernel
theorem dX8_payYearsSince_115 : decode cX8_payYearsSince 115 = .ok (.invokevirtual 154, 3) := by decide +kernel
theorem dX8_payYearsSince_118 : decode cX8_payYearsSince 118 = .ok (.imul, 1) := by decide +kernel
theorem dX8_payYearsSince_119 : decode cX8_payYearsSince 119 = .ok (.sipush 1000, 3) := by decide +kernel
theorem dX8_payYearsSince_122 : decode cX8_payYearsSince 122 = .ok (.idiv, 1) := by decide +kernel
theorem dX8_payYearsSince_123 : decode cX8_payYearsSince 123 = .ok (.istore 7, 2) := by decide +kernel
theorem dX8_payYearsSince_125 : decode cX8_payYearsSince 125 = .ok (.iconst 0, 1) := by decide +kernel
theorem dX8_payYearsSince_126 : decode cX8_payYearsSince 126 = .ok (.istore 8, 2) := by decide +kernel
theorem dX8_payYearsSince_128 : decode cX8_payYearsSince 128 = .ok (.iload_n 3, 1) := by decide +kernel
theorem dX8_payYearsSince_129 : decode cX8_payYearsSince 129 = .ok (.aload_n 0, 1) := by decide +kernel
theorem dX8_payYearsSince_130 : decode cX8_payYearsSince 130 = .ok (.getfield 40, 3) := by decide +kernel
theorem dX8_payYearsSince_133 : decode cX8_payYearsSince 133 = .ok (.getfield 313, 3) := by decide +kernel
theorem dX8_payYearsSince_136 : decode cX8_payYearsSince 136 = .ok (.iload 5, 2) := by decide +kernel
theorem dX8_payYearsSince_138 : decode cX8_payYearsSince 138 = .ok (.iaload, 1) := by decide +kernel
theorem dX8_payYearsSince_139 : decode cX8_payYearsSince 139 = .ok (.invokestatic 282, 3) := by decide +kernel
theorem dX8_payYearsSince_142 : decode cX8_payYearsSince 142 = .ok (.istore 9, 2) := by decide +kernel
theorem dX8_payYearsSince_144 : decode cX8_payYearsSince 144 = .ok (.iload 4, 2) := by decide +kernel
theorem dX8_payYearsSince_146 : decode cX8_payYearsSince 146 = .ok (.iconst 1, 1) := by decide +kernel
theorem dX8_payYearsSince_147 : decode cX8_payYearsSince 147 = .ok (.iadd, 1) := by decide +kernel
theorem dX8_payYearsSince_148 : decode cX8_payYearsSince 148 = .ok (.istore 10, 2) := by decide +kernel
theorem dX8_payYearsSince_150 : decode cX8_payYearsSince 150 = .ok (.iload 10, 2) := by decide +kernel
theorem dX8_payYearsSince_152 : decode cX8_payYearsSince 152 = .ok (.iload 9, 2) := by decide +kernel
theorem dX8_payYearsSince_154 : decode cX8_payYearsSince 154 = .ok (.if_icmp .gt 23, 3) := by decide +kernel
theorem dX8_payYearsSince_157 : decode cX8_payYearsSince 157 = .ok (.aload_n 0, 1) := by decide +kernel
theorem dX8_payYearsSince_158 : decode cX8_payYearsSince 158 = .ok (.iload_n 2, 1) := by decide +kernel
theorem dX8_payYearsSince_159 : decode cX8_payYearsSince 159 = .ok (.iload 7, 2) := by decide +kernel
theorem dX8_payYearsSince_161 : decode cX8_payYearsSince 161 = .ok (.invokevirtual 316, 3) := by decide +kernel
theorem dX8_payYearsSince_164 : decode cX8_payYearsSince 164 = .ok (.iload 8, 2) := by decide +kernel
theorem dX8_payYearsSince_166 : decode cX8_payYearsSince 166 = .ok (.iload 7, 2) := by decide +kernel
theorem dX8_payYearsSince_168 : decode cX8_payYearsSince 168 = .ok (.iadd, 1) := by decide +kernel
theorem dX8_payYearsSince_169 : decode cX8_payYearsSince 169 = .ok (.istore 8, 2) := by decide +kernel
theorem dX8_payYearsSince_171 : decode cX8_payYearsSince 171 = .ok (.iinc 10 1, 3) := by decide +kernel
theorem dX8_payYearsSince_174 : decode cX8_payYearsSince 174 = .ok (.goto (-24), 3) := by decide +kernel
theorem dX8_payYearsSince_177 : decode cX8_payYearsSince 177 = .ok (.iload 8, 2) := by decide +kernel
theorem dX8_payYearsSince_179 : decode cX8_payYearsSince 179 = .ok (.ireturn, 1) := by decide +kernel
theorem dX8_payOut_0 : decode cX8_payOut 0 = .ok (.iload_n 2, 1) := by decide +kernel
theorem dX8_payOut_1 : decode cX8_payOut 1 = .ok (.iconst 1, 1) := by decide +kernel
theorem dX8_payOut_2 : decode cX8_payOut 2 = .ok (.aload_n 0, 1) := by decide +kernel
theorem dX8_payOut_3 : decode cX8_payOut 3 = .ok (.getfield 65, 3) := by decide +kernel
theorem dX8_payOut_6 : decode cX8_payOut 6 = .ok (.iload_n 1, 1) := by decide +kernel
theorem dX8_payOut_7 : decode cX8_payOut 7 = .ok (.invokevirtual 124, 3) := by decide +kernel
theorem dX8_payOut_10 : decode cX8_payOut 10 = .ok (.iadd, 1) := by decide +kernel
theorem dX8_payOut_11 : decode cX8_payOut 11 = .ok (.idiv, 1) := by decide +kernel
theorem dX8_payOut_12 : decode cX8_payOut 12 = .ok (.istore_n 3, 1) := by decide +kernel
theorem dX8_payOut_13 : decode cX8_payOut 13 = .ok (.iload_n 2, 1) := by decide +kernel
theorem dX8_payOut_14 : decode cX8_payOut 14 = .ok (.istore 4, 2) := by decide +kernel
theorem dX8_payOut_16 : decode cX8_payOut 16 = .ok (.iconst 0, 1) := by decide +kernel
theorem dX8_payOut_17 : decode cX8_payOut 17 = .ok (.istore 5, 2) := by decide +kernel
theorem dX8_payOut_19 : decode cX8_payOut 19 = .ok (.iload 5, 2) := by decide +kernel
theorem dX8_payOut_21 : decode cX8_payOut 21 = .ok (.aload_n 0, 1) := by decide +kernel
theorem dX8_payOut_22 : decode cX8_payOut 22 = .ok (.getfield 10, 3) := by decide +kernel
theorem dX8_payOut_25 : decode cX8_payOut 25 = .ok (.getfield 89, 3) := by decide +kernel
theorem dX8_payOut_28 : decode cX8_payOut 28 = .ok (.if_icmp .ge 46, 3) := by decide +kernel
theorem dX8_payOut_31 : decode cX8_payOut 31 = .ok (.aload_n 0, 1) := by decide +kernel
theorem dX8_payOut_32 : decode cX8_payOut 32 = .ok (.getfield 65, 3) := by decide +kernel
theorem dX8_payOut_35 : decode cX8_payOut 35 = .ok (.getfield 127, 3) := by decide +kernel
theorem dX8_payOut_38 : decode cX8_payOut 38 = .ok (.iload_n 1, 1) := by decide +kernel
theorem dX8_payOut_39 : decode cX8_payOut 39 = .ok (.laload, 1) := by decide +kernel
theorem dX8_payOut_40 : decode cX8_payOut 40 = .ok (.iload 5, 2) := by decide +kernel
theorem dX8_payOut_42 : decode cX8_payOut 42 = .ok (.invokestatic 120, 3) := by decide +kernel
theorem dX8_payOut_45 : decode cX8_payOut 45 = .ok (.ifCond .eq 23, 3) := by decide +kernel
theorem dX8_payOut_48 : decode cX8_payOut 48 = .ok (.aload_n 0, 1) := by decide +kernel
theorem dX8_payOut_49 : decode cX8_payOut 49 = .ok (.getfield 10, 3) := by decide +kernel
theorem dX8_payOut_52 : decode cX8_payOut 52 = .ok (.getfield 249, 3) := by decide +kernel
theorem dX8_payOut_55 : decode cX8_payOut 55 = .ok (.iload 5, 2) := by decide +kernel
theorem dX8_payOut_57 : decode cX8_payOut 57 = .ok (.dup2, 1) := by decide +kernel
theorem dX8_payOut_58 : decode cX8_payOut 58 = .ok (.iaload, 1) := by decide +kernel
theorem dX8_payOut_59 : decode cX8_payOut 59 = .ok (.iload_n 3, 1) := by decide +kernel
theorem dX8_payOut_60 : decode cX8_payOut 60 = .ok (.iadd, 1) := by decide +kernel
theorem dX8_payOut_61 : decode cX8_payOut 61 = .ok (.iastore, 1) := by decide +kernel
theorem dX8_payOut_62 : decode cX8_payOut 62 = .ok (.iload 4, 2) := by decide +kernel
theorem dX8_payOut_64 : decode cX8_payOut 64 = .ok (.iload_n 3, 1) := by decide +kernel
theorem dX8_payOut_65 : decode cX8_payOut 65 = .ok (.isub, 1) := by decide +kernel
theorem dX8_payOut_66 : decode cX8_payOut 66 = .ok (.istore 4, 2) := by decide +kernel
theorem dX8_payOut_68 : decode cX8_payOut 68 = .ok (.iinc 5 1, 3) := by decide +kernel
theorem dX8_payOut_71 : decode cX8_payOut 71 = .ok (.goto (-52), 3) := by decide +kernel
theorem dX8_payOut_74 : decode cX8_payOut 74 = .ok (.aload_n 0, 1) := by decide +kernel
theorem dX8_payOut_75 : decode cX8_payOut 75 = .ok (.getfield 10, 3) := by decide +kernel
theorem dX8_payOut_78 : decode cX8_payOut 78 = .ok (.getfield 249, 3) := by decide +kernel
theorem dX8_payOut_81 : decode cX8_payOut 81 = .ok (.aload_n 0, 1) := by decide +kernel
theorem dX8_payOut_82 : decode cX8_payOut 82 = .ok (.getfield 65, 3) := by decide +kernel
theorem dX8_payOut_85 : decode cX8_payOut 85 = .ok (.getfield 298, 3) := by decide +kernel
theorem dX8_payOut_88 : decode cX8_payOut 88 = .ok (.iload_n 1, 1) := by decide +kernel
theorem dX8_payOut_89 : decode cX8_payOut 89 = .ok (.iaload, 1) := by decide +kernel
theorem dX8_payOut_90 : decode cX8_payOut 90 = .ok (.dup2, 1) := by decide +kernel
theorem dX8_payOut_91 : decode cX8_payOut 91 = .ok (.iaload, 1) := by decide +kernel
theorem dX8_payOut_92 : decode cX8_payOut 92 = .ok (.iload 4, 2) := by decide +kernel
theorem dX8_payOut_94 : decode cX8_payOut 94 = .ok (.iadd, 1) := by decide +kernel
theorem dX8_payOut_95 : decode cX8_payOut 95 = .ok (.iastore, 1) := by decide +kernel
theorem dX8_payOut_96 : decode cX8_payOut 96 = .ok (.aload_n 0, 1) := by decide +kernel
theorem dX8_payOut_97 : decode cX8_payOut 97 = .ok (.getfield 65, 3) := by decide +kernel
theorem dX8_payOut_100 : decode cX8_payOut 100 = .ok (.getfield 261, 3) := by decide +kernel
theorem dX8_payOut_103 : decode cX8_payOut 103 = .ok (.iload_n 1, 1) := by decide +kernel
theorem dX8_payOut_104 : decode cX8_payOut 104 = .ok (.dup2, 1) := by decide +kernel
theorem dX8_payOut_105 : decode cX8_payOut 105 = .ok (.iaload, 1) := by decide +kernel
theorem dX8_payOut_106 : decode cX8_payOut 106 = .ok (.iload_n 2, 1) := by decide +kernel
theorem dX8_payOut_107 : decode cX8_payOut 107 = .ok (.iadd, 1) := by decide +kernel
theorem dX8_payOut_108 : decode cX8_payOut 108 = .ok (.iastore, 1) := by decide +kernel
theorem dX8_payOut_109 : decode cX8_payOut 109 = .ok (.return_, 1) := by decide +kernel
