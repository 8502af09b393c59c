theorem dX0_init_0 : decode cX0_init 0 = .ok (.aload_n 0, 1) := by decide +kernel
theorem dX0_init_1 : decode cX0_init 1 = .ok (.invokespecial 3, 3) := by decide +kernel
theorem dX0_init_4 : decode cX0_init 4 = .ok (.aload_n 0, 1) := by decide +kernel
theorem dX0_init_5 : decode cX0_init 5 = .ok (.bipush 12, 2) := by decide +kernel
theorem dX0_init_7 : decode cX0_init 7 = .ok (.newarray .int, 2) := by decide +kernel
theorem dX0_init_9 : decode cX0_init 9 = .ok (.putfield 9, 3) := by decide +kernel
theorem dX0_init_12 : decode cX0_init 12 = .ok (.aload_n 0, 1) := by decide +kernel
theorem dX0_init_13 : decode cX0_init 13 = .ok (.bipush 12, 2) := by decide +kernel
theorem dX0_init_15 : decode cX0_init 15 = .ok (.newarray .int, 2) := by decide +kernel
theorem dX0_init_17 : decode cX0_init 17 = .ok (.putfield 15, 3) := by decide +kernel
theorem dX0_init_20 : decode cX0_init 20 = .ok (.return_, 1) := by decide +kernel
theorem dX0_has_0 : decode cX0_has 0 = .ok (.iload_n 1, 1) := by decide +kernel
theorem dX0_has_1 : decode cX0_has 1 = .ok (.ifCond .lt 15, 3) := by decide +kernel
theorem dX0_has_4 : decode cX0_has 4 = .ok (.iload_n 1, 1) := by decide +kernel
theorem dX0_has_5 : decode cX0_has 5 = .ok (.aload_n 0, 1) := by decide +kernel
theorem dX0_has_6 : decode cX0_has 6 = .ok (.getfield 18, 3) := by decide +kernel
theorem dX0_has_9 : decode cX0_has 9 = .ok (.if_icmp .ge 7, 3) := by decide +kernel
theorem dX0_has_12 : decode cX0_has 12 = .ok (.iconst 1, 1) := by decide +kernel
theorem dX0_has_13 : decode cX0_has 13 = .ok (.goto 4, 3) := by decide +kernel
theorem dX0_has_16 : decode cX0_has 16 = .ok (.iconst 0, 1) := by decide +kernel
theorem dX0_has_17 : decode cX0_has 17 = .ok (.ireturn, 1) := by decide +kernel
theorem dX0_firstFrom_0 : decode cX0_firstFrom 0 = .ok (.iconst 0, 1) := by decide +kernel
theorem dX0_firstFrom_1 : decode cX0_firstFrom 1 = .ok (.istore_n 2, 1) := by decide +kernel
theorem dX0_firstFrom_2 : decode cX0_firstFrom 2 = .ok (.iload_n 2, 1) := by decide +kernel
theorem dX0_firstFrom_3 : decode cX0_firstFrom 3 = .ok (.aload_n 0, 1) := by decide +kernel
theorem dX0_firstFrom_4 : decode cX0_firstFrom 4 = .ok (.getfield 18, 3) := by decide +kernel
theorem dX0_firstFrom_7 : decode cX0_firstFrom 7 = .ok (.if_icmp .ge 19, 3) := by decide +kernel
theorem dX0_firstFrom_10 : decode cX0_firstFrom 10 = .ok (.aload_n 0, 1) := by decide +kernel
theorem dX0_firstFrom_11 : decode cX0_firstFrom 11 = .ok (.getfield 9, 3) := by decide +kernel
theorem dX0_firstFrom_14 : decode cX0_firstFrom 14 = .ok (.iload_n 2, 1) := by decide +kernel
theorem dX0_firstFrom_15 : decode cX0_firstFrom 15 = .ok (.iaload, 1) := by decide +kernel
theorem dX0_firstFrom_16 : decode cX0_firstFrom 16 = .ok (.iload_n 1, 1) := by decide +kernel
theorem dX0_firstFrom_17 : decode cX0_firstFrom 17 = .ok (.if_icmp .ge 9, 3) := by decide +kernel
theorem dX0_firstFrom_20 : decode cX0_firstFrom 20 = .ok (.iinc 2 1, 3) := by decide +kernel
theorem dX0_firstFrom_23 : decode cX0_firstFrom 23 = .ok (.goto (-21), 3) := by decide +kernel
theorem dX0_firstFrom_26 : decode cX0_firstFrom 26 = .ok (.iload_n 2, 1) := by decide +kernel
theorem dX0_firstFrom_27 : decode cX0_firstFrom 27 = .ok (.ireturn, 1) := by decide +kernel
theorem dX0_titleAt_0 : decode cX0_titleAt 0 = .ok (.aload_n 0, 1) := by decide +kernel
theorem dX0_titleAt_1 : decode cX0_titleAt 1 = .ok (.iload_n 1, 1) := by decide +kernel
theorem dX0_titleAt_2 : decode cX0_titleAt 2 = .ok (.invokevirtual 22, 3) := by decide +kernel
theorem dX0_titleAt_5 : decode cX0_titleAt 5 = .ok (.istore_n 2, 1) := by decide +kernel
theorem dX0_titleAt_6 : decode cX0_titleAt 6 = .ok (.aload_n 0, 1) := by decide +kernel
theorem dX0_titleAt_7 : decode cX0_titleAt 7 = .ok (.iload_n 2, 1) := by decide +kernel
theorem dX0_titleAt_8 : decode cX0_titleAt 8 = .ok (.invokevirtual 26, 3) := by decide +kernel
theorem dX0_titleAt_11 : decode cX0_titleAt 11 = .ok (.ifCond .eq 12, 3) := by decide +kernel
theorem dX0_titleAt_14 : decode cX0_titleAt 14 = .ok (.aload_n 0, 1) := by decide +kernel
theorem dX0_titleAt_15 : decode cX0_titleAt 15 = .ok (.getfield 15, 3) := by decide +kernel
theorem dX0_titleAt_18 : decode cX0_titleAt 18 = .ok (.iload_n 2, 1) := by decide +kernel
theorem dX0_titleAt_19 : decode cX0_titleAt 19 = .ok (.iaload, 1) := by decide +kernel
theorem dX0_titleAt_20 : decode cX0_titleAt 20 = .ok (.goto 5, 3) := by decide +kernel
theorem dX0_titleAt_23 : decode cX0_titleAt 23 = .ok (.bipush (-6), 2) := by decide +kernel
theorem dX0_titleAt_25 : decode cX0_titleAt 25 = .ok (.ireturn, 1) := by decide +kernel
theorem dX0_enter_0 : decode cX0_enter 0 = .ok (.iload_n 1, 1) := by decide +kernel
theorem dX0_enter_1 : decode cX0_enter 1 = .ok (.invokestatic 30, 3) := by decide +kernel
theorem dX0_enter_4 : decode cX0_enter 4 = .ok (.ifCond .eq 13, 3) := by decide +kernel
theorem dX0_enter_7 : decode cX0_enter 7 = .ok (.iload_n 2, 1) := by decide +kernel
theorem dX0_enter_8 : decode cX0_enter 8 = .ok (.ifCond .lt 9, 3) := by decide +kernel
theorem dX0_enter_11 : decode cX0_enter 11 = .ok (.iload_n 2, 1) := by decide +kernel
theorem dX0_enter_12 : decode cX0_enter 12 = .ok (.bipush 99, 2) := by decide +kernel
theorem dX0_enter_14 : decode cX0_enter 14 = .ok (.if_icmp .le 6, 3) := by decide +kernel
theorem dX0_enter_17 : decode cX0_enter 17 = .ok (.bipush (-2), 2) := by decide +kernel
theorem dX0_enter_19 : decode cX0_enter 19 = .ok (.ireturn, 1) := by decide +kernel
theorem dX0_enter_20 : decode cX0_enter 20 = .ok (.aload_n 0, 1) := by decide +kernel
theorem dX0_enter_21 : decode cX0_enter 21 = .ok (.iload_n 1, 1) := by decide +kernel
theorem dX0_enter_22 : decode cX0_enter 22 = .ok (.invokevirtual 22, 3) := by decide +kernel
theorem dX0_enter_25 : decode cX0_enter 25 = .ok (.istore_n 3, 1) := by decide +kernel
theorem dX0_enter_26 : decode cX0_enter 26 = .ok (.aload_n 0, 1) := by decide +kernel
theorem dX0_enter_27 : decode cX0_enter 27 = .ok (.iload_n 3, 1) := by decide +kernel
theorem dX0_enter_28 : decode cX0_enter 28 = .ok (.invokevirtual 26, 3) := by decide +kernel
theorem dX0_enter_31 : decode cX0_enter 31 = .ok (.ifCond .eq 13, 3) := by decide +kernel
theorem dX0_enter_34 : decode cX0_enter 34 = .ok (.aload_n 0, 1) := by decide +kernel
theorem dX0_enter_35 : decode cX0_enter 35 = .ok (.getfield 9, 3) := by decide +kernel
theorem dX0_enter_38 : decode cX0_enter 38 = .ok (.iload_n 3, 1) := by decide +kernel
theorem dX0_enter_39 : decode cX0_enter 39 = .ok (.iaload, 1) := by decide +kernel
theorem dX0_enter_40 : decode cX0_enter 40 = .ok (.iload_n 1, 1) := by decide +kernel
theorem dX0_enter_41 : decode cX0_enter 41 = .ok (.if_icmp .eq 74, 3) := by decide +kernel
theorem dX0_enter_44 : decode cX0_enter 44 = .ok (.aload_n 0, 1) := by decide +kernel
theorem dX0_enter_45 : decode cX0_enter 45 = .ok (.getfield 18, 3) := by decide +kernel
theorem dX0_enter_48 : decode cX0_enter 48 = .ok (.bipush 12, 2) := by decide +kernel
theorem dX0_enter_50 : decode cX0_enter 50 = .ok (.if_icmp .lt 6, 3) := by decide +kernel
theorem dX0_enter_53 : decode cX0_enter 53 = .ok (.bipush (-3), 2) := by decide +kernel
theorem dX0_enter_55 : decode cX0_enter 55 = .ok (.ireturn, 1) := by decide +kernel
theorem dX0_enter_56 : decode cX0_enter 56 = .ok (.aload_n 0, 1) := by decide +kernel
theorem dX0_enter_57 : decode cX0_enter 57 = .ok (.getfield 9, 3) := by decide +kernel
theorem dX0_enter_60 : decode cX0_enter 60 = .ok (.iload_n 3, 1) := by decide +kernel
theorem dX0_enter_61 : decode cX0_enter 61 = .ok (.aload_n 0, 1) := by decide +kernel
theorem dX0_enter_62 : decode cX0_enter 62 = .ok (.getfield 9, 3) := by decide +kernel
theorem dX0_enter_65 : decode cX0_enter 65 = .ok (.iload_n 3, 1) := by decide +kernel
theorem dX0_enter_66 : decode cX0_enter 66 = .ok (.iconst 1, 1) := by decide +kernel
theorem dX0_enter_67 : decode cX0_enter 67 = .ok (.iadd, 1) := by decide +kernel
theorem dX0_enter_68 : decode cX0_enter 68 = .ok (.aload_n 0, 1) := by decide +kernel
theorem dX0_enter_69 : decode cX0_enter 69 = .ok (.getfield 18, 3) := by decide +kernel
theorem dX0_enter_72 : decode cX0_enter 72 = .ok (.iload_n 3, 1) := by decide +kernel
theorem dX0_enter_73 : decode cX0_enter 73 = .ok (.isub, 1) := by decide +kernel
theorem dX0_enter_74 : decode cX0_enter 74 = .ok (.invokestatic 33, 3) := by decide +kernel
theorem dX0_enter_77 : decode cX0_enter 77 = .ok (.aload_n 0, 1) := by decide +kernel
theorem dX0_enter_78 : decode cX0_enter 78 = .ok (.getfield 15, 3) := by decide +kernel
theorem dX0_enter_81 : decode cX0_enter 81 = .ok (.iload_n 3, 1) := by decide +kernel
theorem dX0_enter_82 : decode cX0_enter 82 = .ok (.aload_n 0, 1) := by decide +kernel
theorem dX0_enter_83 : decode cX0_enter 83 = .ok (.getfield 15, 3) := by decide +kernel
theorem dX0_enter_86 : decode cX0_enter 86 = .ok (.iload_n 3, 1) := by decide +kernel
theorem dX0_enter_87 : decode cX0_enter 87 = .ok (.iconst 1, 1) := by decide +kernel
theorem dX0_enter_88 : decode cX0_enter 88 = .ok (.iadd, 1) := by decide +kernel
theorem dX0_enter_89 : decode cX0_enter 89 = .ok (.aload_n 0, 1) := by decide +kernel
theorem dX0_enter_90 : decode cX0_enter 90 = .ok (.getfield 18, 3) := by decide +kernel
theorem dX0_enter_93 : decode cX0_enter 93 = .ok (.iload_n 3, 1) := by decide +kernel
theorem dX0_enter_94 : decode cX0_enter 94 = .ok (.isub, 1) := by decide +kernel
theorem dX0_enter_95 : decode cX0_enter 95 = .ok (.invokestatic 33, 3) := by decide +kernel
theorem dX0_enter_98 : decode cX0_enter 98 = .ok (.aload_n 0, 1) := by decide +kernel
theorem dX0_enter_99 : decode cX0_enter 99 = .ok (.dup, 1) := by decide +kernel
theorem dX0_enter_100 : decode cX0_enter 100 = .ok (.getfield 18, 3) := by decide +kernel
theorem dX0_enter_103 : decode cX0_enter 103 = .ok (.iconst 1, 1) := by decide +kernel
theorem dX0_enter_104 : decode cX0_enter 104 = .ok (.iadd, 1) := by decide +kernel
theorem dX0_enter_105 : decode cX0_enter 105 = .ok (.putfield 18, 3) := by decide +kernel
theorem dX0_enter_108 : decode cX0_enter 108 = .ok (.aload_n 0, 1) := by decide +kernel
theorem dX0_enter_109 : decode cX0_enter 109 = .ok (.getfield 9, 3) := by decide +kernel
theorem dX0_enter_112 : decode cX0_enter 112 = .ok (.iload_n 3, 1) := by decide +kernel
theorem dX0_enter_113 : decode cX0_enter 113 = .ok (.iload_n 1, 1) := by decide +kernel
theorem dX0_enter_114 : decode cX0_enter 114 = .ok (.iastore, 1) := by decide +kernel
theorem dX0_enter_115 : decode cX0_enter 115 = .ok (.aload_n 0, 1) := by decide +kernel
theorem dX0_enter_116 : decode cX0_enter 116 = .ok (.getfield 15, 3) := by decide +kernel
theorem dX0_enter_119 : decode cX0_enter 119 = .ok (.iload_n 3, 1) := by decide +kernel
theorem dX0_enter_120 : decode cX0_enter 120 = .ok (.iload_n 2, 1) := by decide +kernel
theorem dX0_enter_121 : decode cX0_enter 121 = .ok (.iastore, 1) := by decide +kernel
theorem dX0_enter_122 : decode cX0_enter 122 = .ok (.iload_n 3, 1) := by decide +kernel
theorem dX0_enter_123 : decode cX0_enter 123 = .ok (.ireturn, 1) := by decide +kernel
theorem dX0_takeOut_0 : decode cX0_takeOut 0 = .ok (.aload_n 0, 1) := by decide +kernel
theorem dX0_takeOut_1 : decode cX0_takeOut 1 = .ok (.iload_n 1, 1) := by decide +kernel
theorem dX0_takeOut_2 : decode cX0_takeOut 2 = .ok (.invokevirtual 26, 3) := by decide +kernel
theorem dX0_takeOut_5 : decode cX0_takeOut 5 = .ok (.ifCond .ne 5, 3) := by decide +kernel
theorem dX0_takeOut_8 : decode cX0_takeOut 8 = .ok (.iconst (-1), 1) := by decide +kernel
theorem dX0_takeOut_9 : decode cX0_takeOut 9 = .ok (.ireturn, 1) := by decide +kernel
theorem dX0_takeOut_10 : decode cX0_takeOut 10 = .ok (.aload_n 0, 1) := by decide +kernel
theorem dX0_takeOut_11 : decode cX0_takeOut 11 = .ok (.dup, 1) := by decide +kernel
theorem dX0_takeOut_12 : decode cX0_takeOut 12 = .ok (.getfield 18, 3) := by decide +kernel
theorem dX0_takeOut_15 : decode cX0_takeOut 15 = .ok (.iconst 1, 1) := by decide +kernel
theorem dX0_takeOut_16 : decode cX0_takeOut 16 = .ok (.isub, 1) := by decide +kernel
theorem dX0_takeOut_17 : decode cX0_takeOut 17 = .ok (.putfield 18, 3) := by decide +kernel
theorem dX0_takeOut_20 : decode cX0_takeOut 20 = .ok (.aload_n 0, 1) := by decide +kernel
theorem dX0_takeOut_21 : decode cX0_takeOut 21 = .ok (.getfield 9, 3) := by decide +kernel
theorem dX0_takeOut_24 : decode cX0_takeOut 24 = .ok (.iload_n 1, 1) := by decide +kernel
theorem dX0_takeOut_25 : decode cX0_takeOut 25 = .ok (.iconst 1, 1) := by decide +kernel
theorem dX0_takeOut_26 : decode cX0_takeOut 26 = .ok (.iadd, 1) := by decide +kernel
theorem dX0_takeOut_27 : decode cX0_takeOut 27 = .ok (.aload_n 0, 1) := by decide +kernel
theorem dX0_takeOut_28 : decode cX0_takeOut 28 = .ok (.getfield 9, 3) := by decide +kernel
theorem dX0_takeOut_31 : decode cX0_takeOut 31 = .ok (.iload_n 1, 1) := by decide +kernel
theorem dX0_takeOut_32 : decode cX0_takeOut 32 = .ok (.aload_n 0, 1) := by decide +kernel
theorem dX0_takeOut_33 : decode cX0_takeOut 33 = .ok (.getfield 18, 3) := by decide +kernel
theorem dX0_takeOut_36 : decode cX0_takeOut 36 = .ok (.iload_n 1, 1) := by decide +kernel
theorem dX0_takeOut_37 : decode cX0_takeOut 37 = .ok (.isub, 1) := by decide +kernel
theorem dX0_takeOut_38 : decode cX0_takeOut 38 = .ok (.invokestatic 33, 3) := by decide +kernel
theorem dX0_takeOut_41 : decode cX0_takeOut 41 = .ok (.aload_n 0, 1) := by decide +kernel
theorem dX0_takeOut_42 : decode cX0_takeOut 42 = .ok (.getfield 15, 3) := by decide +kernel
theorem dX0_takeOut_45 : decode cX0_takeOut 45 = .ok (.iload_n 1, 1) := by decide +kernel
theorem dX0_takeOut_46 : decode cX0_takeOut 46 = .ok (.iconst 1, 1) := by decide +kernel
theorem dX0_takeOut_47 : decode cX0_takeOut 47 = .ok (.iadd, 1) := by decide +kernel
theorem dX0_takeOut_48 : decode cX0_takeOut 48 = .ok (.aload_n 0, 1) := by decide +kernel
theorem dX0_takeOut_49 : decode cX0_takeOut 49 = .ok (.getfield 15, 3) := by decide +kernel
theorem dX0_takeOut_52 : decode cX0_takeOut 52 = .ok (.iload_n 1, 1) := by decide +kernel
theorem dX0_takeOut_53 : decode cX0_takeOut 53 = .ok (.aload_n 0, 1) := by decide +kernel
theorem dX0_takeOut_54 : decode cX0_takeOut 54 = .ok (.getfield 18, 3) := by decide +kernel
theorem dX0_takeOut_57 : decode cX0_takeOut 57 = .ok (.iload_n 1, 1) := by decide +kernel
theorem dX0_takeOut_58 : decode cX0_takeOut 58 = .ok (.isub, 1) := by decide +kernel
theorem dX0_takeOut_59 : decode cX0_takeOut 59 = .ok (.invokestatic 33, 3) := by decide +kernel
theorem dX0_takeOut_62 : decode cX0_takeOut 62 = .ok (.aload_n 0, 1) := by decide +kernel
theorem dX0_takeOut_63 : decode cX0_takeOut 63 = .ok (.getfield 18, 3) := by decide +kernel
theorem dX0_takeOut_66 : decode cX0_takeOut 66 = .ok (.ireturn, 1) := by decide +kernel
theorem dX0_takeFrames_0 : decode cX0_takeFrames 0 = .ok (.iconst 0, 1) := by decide +kernel
theorem dX0_takeFrames_1 : decode cX0_takeFrames 1 = .ok (.istore_n 3, 1) := by decide +kernel
theorem dX0_takeFrames_2 : decode cX0_takeFrames 2 = .ok (.iconst 0, 1) := by decide +kernel
theorem dX0_takeFrames_3 : decode cX0_takeFrames 3 = .ok (.istore 4, 2) := by decide +kernel
theorem dX0_takeFrames_5 : decode cX0_takeFrames 5 = .ok (.iload 4, 2) := by decide +kernel
theorem dX0_takeFrames_7 : decode cX0_takeFrames 7 = .ok (.aload_n 0, 1) := by decide +kernel
theorem dX0_takeFrames_8 : decode cX0_takeFrames 8 = .ok (.getfield 18, 3) := by decide +kernel
theorem dX0_takeFrames_11 : decode cX0_takeFrames 11 = .ok (.if_icmp .ge 85, 3) := by decide +kernel
theorem dX0_takeFrames_14 : decode cX0_takeFrames 14 = .ok (.aload_n 0, 1) := by decide +kernel
theorem dX0_takeFrames_15 : decode cX0_takeFrames 15 = .ok (.getfield 9, 3) := by decide +kernel
theorem dX0_takeFrames_18 : decode cX0_takeFrames 18 = .ok (.iload 4, 2) := by decide +kernel
theorem dX0_takeFrames_20 : decode cX0_takeFrames 20 = .ok (.iaload, 1) := by decide +kernel
theorem dX0_takeFrames_21 : decode cX0_takeFrames 21 = .ok (.istore 5, 2) := by decide +kernel
theorem dX0_takeFrames_23 : decode cX0_takeFrames 23 = .ok (.iload 5, 2) := by decide +kernel
theorem dX0_takeFrames_25 : decode cX0_takeFrames 25 = .ok (.iload_n 2, 1) := by decide +kernel
theorem dX0_takeFrames_26 : decode cX0_takeFrames 26 = .ok (.if_icmp .lt 14, 3) := by decide +kernel
theorem dX0_takeFrames_29 : decode cX0_takeFrames 29 = .ok (.iload 5, 2) := by decide +kernel
theorem dX0_takeFrames_31 : decode cX0_takeFrames 31 = .ok (.iload_n 2, 1) := by decide +kernel
theorem dX0_takeFrames_32 : decode cX0_takeFrames 32 = .ok (.iload_n 1, 1) := by decide +kernel
theorem dX0_takeFrames_33 : decode cX0_takeFrames 33 = .ok (.isub, 1) := by decide +kernel
theorem dX0_takeFrames_34 : decode cX0_takeFrames 34 = .ok (.isub, 1) := by decide +kernel
theorem dX0_takeFrames_35 : decode cX0_takeFrames 35 = .ok (.istore 5, 2) := by decide +kernel
theorem dX0_takeFrames_37 : decode cX0_takeFrames 37 = .ok (.goto 12, 3) := by decide +kernel
theorem dX0_takeFrames_40 : decode cX0_takeFrames 40 = .ok (.iload 5, 2) := by decide +kernel
theorem dX0_takeFrames_42 : decode cX0_takeFrames 42 = .ok (.iload_n 1, 1) := by decide +kernel
theorem dX0_takeFrames_43 : decode cX0_takeFrames 43 = .ok (.if_icmp .le 6, 3) := by decide +kernel
theorem dX0_takeFrames_46 : decode cX0_takeFrames 46 = .ok (.iload_n 1, 1) := by decide +kernel
theorem dX0_takeFrames_47 : decode cX0_takeFrames 47 = .ok (.istore 5, 2) := by decide +kernel
theorem dX0_takeFrames_49 : decode cX0_takeFrames 49 = .ok (.iload_n 3, 1) := by decide +kernel
theorem dX0_takeFrames_50 : decode cX0_takeFrames 50 = .ok (.ifCond .eq 16, 3) := by decide +kernel
theorem dX0_takeFrames_53 : decode cX0_takeFrames 53 = .ok (.aload_n 0, 1) := by decide +kernel
theorem dX0_takeFrames_54 : decode cX0_takeFrames 54 = .ok (.getfield 9, 3) := by decide +kernel
theorem dX0_takeFrames_57 : decode cX0_takeFrames 57 = .ok (.iload_n 3, 1) := by decide +kernel
theorem dX0_takeFrames_58 : decode cX0_takeFrames 58 = .ok (.iconst 1, 1) := by decide +kernel
theorem dX0_takeFrames_59 : decode cX0_takeFrames 59 = .ok (.isub, 1) := by decide +kernel
theorem dX0_takeFrames_60 : decode cX0_takeFrames 60 = .ok (.iaload, 1) := by decide +kernel
theorem dX0_takeFrames_61 : decode cX0_takeFrames 61 = .ok (.iload 5, 2) := by decide +kernel
theorem dX0_takeFrames_63 : decode cX0_takeFrames 63 = .ok (.if_icmp .eq 27, 3) := by decide +kernel
theorem dX0_takeFrames_66 : decode cX0_takeFrames 66 = .ok (.aload_n 0, 1) := by decide +kernel
theorem dX0_takeFrames_67 : decode cX0_takeFrames 67 = .ok (.getfield 9, 3) := by decide +kernel
theorem dX0_takeFrames_70 : decode cX0_takeFrames 70 = .ok (.iload_n 3, 1) := by decide +kernel
theorem dX0_takeFrames_71 : decode cX0_takeFrames 71 = .ok (.iload 5, 2) := by decide +kernel
theorem dX0_takeFrames_73 : decode cX0_takeFrames 73 = .ok (.iastore, 1) := by decide +kernel
theorem dX0_takeFrames_74 : decode cX0_takeFrames 74 = .ok (.aload_n 0, 1) := by decide +kernel
theorem dX0_takeFrames_75 : decode cX0_takeFrames 75 = .ok (.getfield 15, 3) := by decide +kernel
theorem dX0_takeFrames_78 : decode cX0_takeFrames 78 = .ok (.iload_n 3, 1) := by decide +kernel
theorem dX0_takeFrames_79 : decode cX0_takeFrames 79 = .ok (.aload_n 0, 1) := by decide +kernel
theorem dX0_takeFrames_80 : decode cX0_takeFrames 80 = .ok (.getfield 15, 3) := by decide +kernel
theorem dX0_takeFrames_83 : decode cX0_takeFrames 83 = .ok (.iload 4, 2) := by decide +kernel
theorem dX0_takeFrames_85 : decode cX0_takeFrames 85 = .ok (.iaload, 1) := by decide +kernel
theorem dX0_takeFrames_86 : decode cX0_takeFrames 86 = .ok (.iastore, 1) := by decide +kernel
theorem dX0_takeFrames_87 : decode cX0_takeFrames 87 = .ok (.iinc 3 1, 3) := by decide +kernel
theorem dX0_takeFrames_90 : decode cX0_takeFrames 90 = .ok (.iinc 4 1, 3) := by decide +kernel
theorem dX0_takeFrames_93 : decode cX0_takeFrames 93 = .ok (.goto (-88), 3) := by decide +kernel
theorem dX0_takeFrames_96 : decode cX0_takeFrames 96 = .ok (.aload_n 0, 1) := by decide +kernel
theorem dX0_takeFrames_97 : decode cX0_takeFrames 97 = .ok (.iload_n 3, 1) := by decide +kernel
theorem dX0_takeFrames_98 : decode cX0_takeFrames 98 = .ok (.putfield 18, 3) := by decide +kernel
theorem dX0_takeFrames_101 : decode cX0_takeFrames 101 = .ok (.return_, 1) := by decide +kernel
theorem dX0_giveFrames_0 : decode cX0_giveFrames 0 = .ok (.aload_n 0, 1) := by decide +kernel
theorem dX0_giveFrames_1 : decode cX0_giveFrames 1 = .ok (.iload_n 1, 1) := by decide +kernel
theorem dX0_giveFrames_2 : decode cX0_giveFrames 2 = .ok (.invokevirtual 22, 3) := by decide +kernel
theorem dX0_giveFrames_5 : decode cX0_giveFrames 5 = .ok (.istore_n 3, 1) := by decide +kernel
theorem dX0_giveFrames_6 : decode cX0_giveFrames 6 = .ok (.iload_n 3, 1) := by decide +kernel
theorem dX0_giveFrames_7 : decode cX0_giveFrames 7 = .ok (.aload_n 0, 1) := by decide +kernel
theorem dX0_giveFrames_8 : decode cX0_giveFrames 8 = .ok (.getfield 18, 3) := by decide +kernel
theorem dX0_giveFrames_11 : decode cX0_giveFrames 11 = .ok (.if_icmp .ge 19, 3) := by decide +kernel
theorem dX0_giveFrames_14 : decode cX0_giveFrames 14 = .ok (.aload_n 0, 1) := by decide +kernel
theorem dX0_giveFrames_15 : decode cX0_giveFrames 15 = .ok (.getfield 9, 3) := by decide +kernel
theorem dX0_giveFrames_18 : decode cX0_giveFrames 18 = .ok (.iload_n 3, 1) := by decide +kernel
theorem dX0_giveFrames_19 : decode cX0_giveFrames 19 = .ok (.dup2, 1) := by decide +kernel
theorem dX0_giveFrames_20 : decode cX0_giveFrames 20 = .ok (.iaload, 1) := by decide +kernel
theorem dX0_giveFrames_21 : decode cX0_giveFrames 21 = .ok (.iload_n 2, 1) := by decide +kernel
theorem dX0_giveFrames_22 : decode cX0_giveFrames 22 = .ok (.iadd, 1) := by decide +kernel
theorem dX0_giveFrames_23 : decode cX0_giveFrames 23 = .ok (.iastore, 1) := by decide +kernel
theorem dX0_giveFrames_24 : decode cX0_giveFrames 24 = .ok (.iinc 3 1, 3) := by decide +kernel
theorem dX0_giveFrames_27 : decode cX0_giveFrames 27 = .ok (.goto (-21), 3) := by decide +kernel
theorem dX0_giveFrames_30 : decode cX0_giveFrames 30 = .ok (.return_, 1) := by decide +kernel
theorem dX1_init_0 : decode cX1_init 0 = .ok (.aload_n 0, 1) := by decide +kernel
theorem dX1_init_1 : decode cX1_init 1 = .ok (.invokespecial 3, 3) := by decide +kernel
theorem dX1_init_4 : decode cX1_init 4 = .ok (.aload_n 0, 1) := by decide +kernel
theorem dX1_init_5 : decode cX1_init 5 = .ok (.sipush 256, 3) := by decide +kernel
theorem dX1_init_8 : decode cX1_init 8 = .ok (.newarray .int, 2) := by decide +kernel
theorem dX1_init_10 : decode cX1_init 10 = .ok (.putfield 9, 3) := by decide +kernel
theorem dX1_init_13 : decode cX1_init 13 = .ok (.return_, 1) := by decide +kernel
theorem dX1_has_0 : decode cX1_has 0 = .ok (.iload_n 1, 1) := by decide +kernel
theorem dX1_has_1 : decode cX1_has 1 = .ok (.ifCond .lt 15, 3) := by decide +kernel
theorem dX1_has_4 : decode cX1_has 4 = .ok (.iload_n 1, 1) := by decide +kernel
theorem dX1_has_5 : decode cX1_has 5 = .ok (.aload_n 0, 1) := by decide +kernel
theorem dX1_has_6 : decode cX1_has 6 = .ok (.getfield 15, 3) := by decide +kernel
theorem dX1_has_9 : decode cX1_has 9 = .ok (.if_icmp .ge 7, 3) := by decide +kernel
theorem dX1_has_12 : decode cX1_has 12 = .ok (.iconst 1, 1) := by decide +kernel
theorem dX1_has_13 : decode cX1_has 13 = .ok (.goto 4, 3) := by decide +kernel
theorem dX1_has_16 : decode cX1_has 16 = .ok (.iconst 0, 1) := by decide +kernel
theorem dX1_has_17 : decode cX1_has 17 = .ok (.ireturn, 1) := by decide +kernel
theorem dX1_get_0 : decode cX1_get 0 = .ok (.aload_n 0, 1) := by decide +kernel
theorem dX1_get_1 : decode cX1_get 1 = .ok (.getfield 9, 3) := by decide +kernel
theorem dX1_get_4 : decode cX1_get 4 = .ok (.iload_n 1, 1) := by decide +kernel
theorem dX1_get_5 : decode cX1_get 5 = .ok (.bipush 8, 2) := by decide +kernel
theorem dX1_get_7 : decode cX1_get 7 = .ok (.imul, 1) := by decide +kernel
theorem dX1_get_8 : decode cX1_get 8 = .ok (.iload_n 2, 1) := by decide +kernel
theorem dX1_get_9 : decode cX1_get 9 = .ok (.iadd, 1) := by decide +kernel
theorem dX1_get_10 : decode cX1_get 10 = .ok (.iaload, 1) := by decide +kernel
theorem dX1_get_11 : decode cX1_get 11 = .ok (.ireturn, 1) := by decide +kernel
theorem dX1_put_0 : decode cX1_put 0 = .ok (.aload_n 0, 1) := by decide +kernel
theorem dX1_put_1 : decode cX1_put 1 = .ok (.getfield 9, 3) := by decide +kernel
theorem dX1_put_4 : decode cX1_put 4 = .ok (.iload_n 1, 1) := by decide +kernel
theorem dX1_put_5 : decode cX1_put 5 = .ok (.bipush 8, 2) := by decide +kernel
theorem dX1_put_7 : decode cX1_put 7 = .ok (.imul, 1) := by decide +kernel
theorem dX1_put_8 : decode cX1_put 8 = .ok (.iload_n 2, 1) := by decide +kernel
theorem dX1_put_9 : decode cX1_put 9 = .ok (.iadd, 1) := by decide +kernel
theorem dX1_put_10 : decode cX1_put 10 = .ok (.iload_n 3, 1) := by decide +kernel
theorem dX1_put_11 : decode cX1_put 11 = .ok (.iastore, 1) := by decide +kernel
theorem dX1_put_12 : decode cX1_put 12 = .ok (.return_, 1) := by decide +kernel
theorem dX1_endOf_0 : decode cX1_endOf 0 = .ok (.aload_n 0, 1) := by decide +kernel
theorem dX1_endOf_1 : decode cX1_endOf 1 = .ok (.iload_n 1, 1) := by decide +kernel
theorem dX1_endOf_2 : decode cX1_endOf 2 = .ok (.iconst 1, 1) := by decide +kernel
theorem dX1_endOf_3 : decode cX1_endOf 3 = .ok (.invokevirtual 19, 3) := by decide +kernel
theorem dX1_endOf_6 : decode cX1_endOf 6 = .ok (.aload_n 0, 1) := by decide +kernel
theorem dX1_endOf_7 : decode cX1_endOf 7 = .ok (.iload_n 1, 1) := by decide +kernel
theorem dX1_endOf_8 : decode cX1_endOf 8 = .ok (.iconst 4, 1) := by decide +kernel
theorem dX1_endOf_9 : decode cX1_endOf 9 = .ok (.invokevirtual 19, 3) := by decide +kernel
theorem dX1_endOf_12 : decode cX1_endOf 12 = .ok (.iadd, 1) := by decide +kernel
theorem dX1_endOf_13 : decode cX1_endOf 13 = .ok (.ireturn, 1) := by decide +kernel
theorem dX1_lastEnd_0 : decode cX1_lastEnd 0 = .ok (.iconst 0, 1) := by decide +kernel
theorem dX1_lastEnd_1 : decode cX1_lastEnd 1 = .ok (.istore_n 1, 1) := by decide +kernel
theorem dX1_lastEnd_2 : decode cX1_lastEnd 2 = .ok (.iconst 0, 1) := by decide +kernel
theorem dX1_lastEnd_3 : decode cX1_lastEnd 3 = .ok (.istore_n 2, 1) := by decide +kernel
theorem dX1_lastEnd_4 : decode cX1_lastEnd 4 = .ok (.iload_n 2, 1) := by decide +kernel
theorem dX1_lastEnd_5 : decode cX1_lastEnd 5 = .ok (.aload_n 0, 1) := by decide +kernel
theorem dX1_lastEnd_6 : decode cX1_lastEnd 6 = .ok (.getfield 15, 3) := by decide +kernel
theorem dX1_lastEnd_9 : decode cX1_lastEnd 9 = .ok (.if_icmp .ge 19, 3) := by decide +kernel
theorem dX1_lastEnd_12 : decode cX1_lastEnd 12 = .ok (.iload_n 1, 1) := by decide +kernel
theorem dX1_lastEnd_13 : decode cX1_lastEnd 13 = .ok (.aload_n 0, 1) := by decide +kernel
theorem dX1_lastEnd_14 : decode cX1_lastEnd 14 = .ok (.iload_n 2, 1) := by decide +kernel
theorem dX1_lastEnd_15 : decode cX1_lastEnd 15 = .ok (.invokevirtual 23, 3) := by decide +kernel
theorem dX1_lastEnd_18 : decode cX1_lastEnd 18 = .ok (.invokestatic 27, 3) := by decide +kernel
theorem dX1_lastEnd_21 : decode cX1_lastEnd 21 = .ok (.istore_n 1, 1) := by decide +kernel
theorem dX1_lastEnd_22 : decode cX1_lastEnd 22 = .ok (.iinc 2 1, 3) := by decide +kernel
theorem dX1_lastEnd_25 : decode cX1_lastEnd 25 = .ok (.goto (-21), 3) := by decide +kernel
theorem dX1_lastEnd_28 : decode cX1_lastEnd 28 = .ok (.iload_n 1, 1) := by decide +kernel
theorem dX1_lastEnd_29 : decode cX1_lastEnd 29 = .ok (.ireturn, 1) := by decide +kernel
theorem dX1_on_0 : decode cX1_on 0 = .ok (.iconst 0, 1) := by decide +kernel
theorem dX1_on_1 : decode cX1_on 1 = .ok (.istore_n 3, 1) := by decide +kernel
theorem dX1_on_2 : decode cX1_on 2 = .ok (.iload_n 3, 1) := by decide +kernel
theorem dX1_on_3 : decode cX1_on 3 = .ok (.aload_n 0, 1) := by decide +kernel
theorem dX1_on_4 : decode cX1_on 4 = .ok (.getfield 15, 3) := by decide +kernel
theorem dX1_on_7 : decode cX1_on 7 = .ok (.if_icmp .ge 40, 3) := by decide +kernel
theorem dX1_on_10 : decode cX1_on 10 = .ok (.aload_n 0, 1) := by decide +kernel
theorem dX1_on_11 : decode cX1_on 11 = .ok (.iload_n 3, 1) := by decide +kernel
theorem dX1_on_12 : decode cX1_on 12 = .ok (.iconst 0, 1) := by decide +kernel
theorem dX1_on_13 : decode cX1_on 13 = .ok (.invokevirtual 19, 3) := by decide +kernel
theorem dX1_on_16 : decode cX1_on 16 = .ok (.iload_n 1, 1) := by decide +kernel
theorem dX1_on_17 : decode cX1_on 17 = .ok (.if_icmp .ne 24, 3) := by decide +kernel
theorem dX1_on_20 : decode cX1_on 20 = .ok (.aload_n 0, 1) := by decide +kernel
theorem dX1_on_21 : decode cX1_on 21 = .ok (.iload_n 3, 1) := by decide +kernel
theorem dX1_on_22 : decode cX1_on 22 = .ok (.iconst 1, 1) := by decide +kernel
theorem dX1_on_23 : decode cX1_on 23 = .ok (.invokevirtual 19, 3) := by decide +kernel
theorem dX1_on_26 : decode cX1_on 26 = .ok (.iload_n 2, 1) := by decide +kernel
theorem dX1_on_27 : decode cX1_on 27 = .ok (.if_icmp .gt 14, 3) := by decide +kernel
theorem dX1_on_30 : decode cX1_on 30 = .ok (.iload_n 2, 1) := by decide +kernel
theorem dX1_on_31 : decode cX1_on 31 = .ok (.aload_n 0, 1) := by decide +kernel
theorem dX1_on_32 : decode cX1_on 32 = .ok (.iload_n 3, 1) := by decide +kernel
theorem dX1_on_33 : decode cX1_on 33 = .ok (.invokevirtual 23, 3) := by decide +kernel
theorem dX1_on_36 : decode cX1_on 36 = .ok (.if_icmp .ge 5, 3) := by decide +kernel
theorem dX1_on_39 : decode cX1_on 39 = .ok (.iload_n 3, 1) := by decide +kernel
theorem dX1_on_40 : decode cX1_on 40 = .ok (.ireturn, 1) := by decide +kernel
theorem dX1_on_41 : decode cX1_on 41 = .ok (.iinc 3 1, 3) := by decide +kernel
theorem dX1_on_44 : decode cX1_on 44 = .ok (.goto (-42), 3) := by decide +kernel
theorem dX1_on_47 : decode cX1_on 47 = .ok (.iconst (-1), 1) := by decide +kernel
theorem dX1_on_48 : decode cX1_on 48 = .ok (.ireturn, 1) := by decide +kernel
theorem dX1_isFading_0 : decode cX1_isFading 0 = .ok (.iload_n 2, 1) := by decide +kernel
theorem dX1_isFading_1 : decode cX1_isFading 1 = .ok (.aload_n 0, 1) := by decide +kernel
theorem dX1_isFading_2 : decode cX1_isFading 2 = .ok (.iload_n 1, 1) := by decide +kernel
theorem dX1_isFading_3 : decode cX1_isFading 3 = .ok (.iconst 1, 1) := by decide +kernel
theorem dX1_isFading_4 : decode cX1_isFading 4 = .ok (.invokevirtual 19, 3) := by decide +kernel
theorem dX1_isFading_7 : decode cX1_isFading 7 = .ok (.isub, 1) := by decide +kernel
theorem dX1_isFading_8 : decode cX1_isFading 8 = .ok (.aload_n 0, 1) := by decide +kernel
theorem dX1_isFading_9 : decode cX1_isFading 9 = .ok (.iload_n 1, 1) := by decide +kernel
theorem dX1_isFading_10 : decode cX1_isFading 10 = .ok (.bipush 6, 2) := by decide +kernel
theorem dX1_isFading_12 : decode cX1_isFading 12 = .ok (.invokevirtual 19, 3) := by decide +kernel
theorem dX1_isFading_15 : decode cX1_isFading 15 = .ok (.if_icmp .lt 20, 3) := by decide +kernel
theorem dX1_isFading_18 : decode cX1_isFading 18 = .ok (.aload_n 0, 1) := by decide +kernel
theorem dX1_isFading_19 : decode cX1_isFading 19 = .ok (.iload_n 1, 1) := by decide +kernel
theorem dX1_isFading_20 : decode cX1_isFading 20 = .ok (.invokevirtual 23, 3) := by decide +kernel
theorem dX1_isFading_23 : decode cX1_isFading 23 = .ok (.iload_n 2, 1) := by decide +kernel
theorem dX1_isFading_24 : decode cX1_isFading 24 = .ok (.isub, 1) := by decide +kernel
theorem dX1_isFading_25 : decode cX1_isFading 25 = .ok (.aload_n 0, 1) := by decide +kernel
theorem dX1_isFading_26 : decode cX1_isFading 26 = .ok (.iload_n 1, 1) := by decide +kernel
theorem dX1_isFading_27 : decode cX1_isFading 27 = .ok (.bipush 7, 2) := by decide +kernel
theorem dX1_isFading_29 : decode cX1_isFading 29 = .ok (.invokevirtual 19, 3) := by decide +kernel
theorem dX1_isFading_32 : decode cX1_isFading 32 = .ok (.if_icmp .gt 7, 3) := by decide +kernel
theorem dX1_isFading_35 : decode cX1_isFading 35 = .ok (.iconst 1, 1) := by decide +kernel
theorem dX1_isFading_36 : decode cX1_isFading 36 = .ok (.goto 4, 3) := by decide +kernel
theorem dX1_isFading_39 : decode cX1_isFading 39 = .ok (.iconst 0, 1) := by decide +kernel
theorem dX1_isFading_40 : decode cX1_isFading 40 = .ok (.ireturn, 1) := by decide +kernel
theorem dX1_isFree_0 : decode cX1_isFree 0 = .ok (.iconst 0, 1) := by decide +kernel
theorem dX1_isFree_1 : decode cX1_isFree 1 = .ok (.istore 5, 2) := by decide +kernel
theorem dX1_isFree_3 : decode cX1_isFree 3 = .ok (.iload 5, 2) := by decide +kernel
theorem dX1_isFree_5 : decode cX1_isFree 5 = .ok (.aload_n 0, 1) := by decide +kernel
theorem dX1_isFree_6 : decode cX1_isFree 6 = .ok (.getfield 15, 3) := by decide +kernel
theorem dX1_isFree_9 : decode cX1_isFree 9 = .ok (.if_icmp .ge 52, 3) := by decide +kernel
theorem dX1_isFree_12 : decode cX1_isFree 12 = .ok (.iload 5, 2) := by decide +kernel
theorem dX1_isFree_14 : decode cX1_isFree 14 = .ok (.iload 4, 2) := by decide +kernel
theorem dX1_isFree_16 : decode cX1_isFree 16 = .ok (.if_icmp .eq 39, 3) := by decide +kernel
theorem dX1_isFree_19 : decode cX1_isFree 19 = .ok (.aload_n 0, 1) := by decide +kernel
theorem dX1_isFree_20 : decode cX1_isFree 20 = .ok (.iload 5, 2) := by decide +kernel
theorem dX1_isFree_22 : decode cX1_isFree 22 = .ok (.iconst 0, 1) := by decide +kernel
theorem dX1_isFree_23 : decode cX1_isFree 23 = .ok (.invokevirtual 19, 3) := by decide +kernel
theorem dX1_isFree_26 : decode cX1_isFree 26 = .ok (.iload_n 1, 1) := by decide +kernel
theorem dX1_isFree_27 : decode cX1_isFree 27 = .ok (.if_icmp .ne 28, 3) := by decide +kernel
theorem dX1_isFree_30 : decode cX1_isFree 30 = .ok (.iload_n 2, 1) := by decide +kernel
theorem dX1_isFree_31 : decode cX1_isFree 31 = .ok (.aload_n 0, 1) := by decide +kernel
theorem dX1_isFree_32 : decode cX1_isFree 32 = .ok (.iload 5, 2) := by decide +kernel
theorem dX1_isFree_34 : decode cX1_isFree 34 = .ok (.invokevirtual 23, 3) := by decide +kernel
theorem dX1_isFree_37 : decode cX1_isFree 37 = .ok (.if_icmp .ge 18, 3) := by decide +kernel
theorem dX1_isFree_40 : decode cX1_isFree 40 = .ok (.aload_n 0, 1) := by decide +kernel
theorem dX1_isFree_41 : decode cX1_isFree 41 = .ok (.iload 5, 2) := by decide +kernel
theorem dX1_isFree_43 : decode cX1_isFree 43 = .ok (.iconst 1, 1) := by decide +kernel
theorem dX1_isFree_44 : decode cX1_isFree 44 = .ok (.invokevirtual 19, 3) := by decide +kernel
theorem dX1_isFree_47 : decode cX1_isFree 47 = .ok (.iload_n 2, 1) := by decide +kernel
theorem dX1_isFree_48 : decode cX1_isFree 48 = .ok (.iload_n 3, 1) := by decide +kernel
theorem dX1_isFree_49 : decode cX1_isFree 49 = .ok (.iadd, 1) := by decide +kernel
theorem dX1_isFree_50 : decode cX1_isFree 50 = .ok (.if_icmp .ge 5, 3) := by decide +kernel
theorem dX1_isFree_53 : decode cX1_isFree 53 = .ok (.iconst 0, 1) := by decide +kernel
theorem dX1_isFree_54 : decode cX1_isFree 54 = .ok (.ireturn, 1) := by decide +kernel
theorem dX1_isFree_55 : decode cX1_isFree 55 = .ok (.iinc 5 1, 3) := by decide +kernel
theorem dX1_isFree_58 : decode cX1_isFree 58 = .ok (.goto (-55), 3) := by decide +kernel
theorem dX1_isFree_61 : decode cX1_isFree 61 = .ok (.iconst 1, 1) := by decide +kernel
theorem dX1_isFree_62 : decode cX1_isFree 62 = .ok (.ireturn, 1) := by decide +kernel
theorem dX1_usersOf_0 : decode cX1_usersOf 0 = .ok (.iconst 0, 1) := by decide +kernel
theorem dX1_usersOf_1 : decode cX1_usersOf 1 = .ok (.istore_n 2, 1) := by decide +kernel
theorem dX1_usersOf_2 : decode cX1_usersOf 2 = .ok (.iconst 0, 1) := by decide +kernel
theorem dX1_usersOf_3 : decode cX1_usersOf 3 = .ok (.istore_n 3, 1) := by decide +kernel
theorem dX1_usersOf_4 : decode cX1_usersOf 4 = .ok (.iload_n 3, 1) := by decide +kernel
theorem dX1_usersOf_5 : decode cX1_usersOf 5 = .ok (.aload_n 0, 1) := by decide +kernel
theorem dX1_usersOf_6 : decode cX1_usersOf 6 = .ok (.getfield 15, 3) := by decide +kernel
theorem dX1_usersOf_9 : decode cX1_usersOf 9 = .ok (.if_icmp .ge 27, 3) := by decide +kernel
theorem dX1_usersOf_12 : decode cX1_usersOf 12 = .ok (.iload_n 2, 1) := by decide +kernel
theorem dX1_usersOf_13 : decode cX1_usersOf 13 = .ok (.aload_n 0, 1) := by decide +kernel
theorem dX1_usersOf_14 : decode cX1_usersOf 14 = .ok (.iload_n 3, 1) := by decide +kernel
theorem dX1_usersOf_15 : decode cX1_usersOf 15 = .ok (.iconst 2, 1) := by decide +kernel
theorem dX1_usersOf_16 : decode cX1_usersOf 16 = .ok (.invokevirtual 19, 3) := by decide +kernel
theorem dX1_usersOf_19 : decode cX1_usersOf 19 = .ok (.iload_n 1, 1) := by decide +kernel
theorem dX1_usersOf_20 : decode cX1_usersOf 20 = .ok (.if_icmp .ne 7, 3) := by decide +kernel
theorem dX1_usersOf_23 : decode cX1_usersOf 23 = .ok (.iconst 1, 1) := by decide +kernel
theorem dX1_usersOf_24 : decode cX1_usersOf 24 = .ok (.goto 4, 3) := by decide +kernel
theorem dX1_usersOf_27 : decode cX1_usersOf 27 = .ok (.iconst 0, 1) := by decide +kernel
theorem dX1_usersOf_28 : decode cX1_usersOf 28 = .ok (.iadd, 1) := by decide +kernel
theorem dX1_usersOf_29 : decode cX1_usersOf 29 = .ok (.istore_n 2, 1) := by decide +kernel
theorem dX1_usersOf_30 : decode cX1_usersOf 30 = .ok (.iinc 3 1, 3) := by decide +kernel
theorem dX1_usersOf_33 : decode cX1_usersOf 33 = .ok (.goto (-29), 3) := by decide +kernel
theorem dX1_usersOf_36 : decode cX1_usersOf 36 = .ok (.iload_n 2, 1) := by decide +kernel
theorem dX1_usersOf_37 : decode cX1_usersOf 37 = .ok (.ireturn, 1) := by decide +kernel
theorem dX1_clipsOn_0 : decode cX1_clipsOn 0 = .ok (.iconst 0, 1) := by decide +kernel
theorem dX1_clipsOn_1 : decode cX1_clipsOn 1 = .ok (.istore_n 2, 1) := by decide +kernel
theorem dX1_clipsOn_2 : decode cX1_clipsOn 2 = .ok (.iconst 0, 1) := by decide +kernel
theorem dX1_clipsOn_3 : decode cX1_clipsOn 3 = .ok (.istore_n 3, 1) := by decide +kernel
theorem dX1_clipsOn_4 : decode cX1_clipsOn 4 = .ok (.iload_n 3, 1) := by decide +kernel
theorem dX1_clipsOn_5 : decode cX1_clipsOn 5 = .ok (.aload_n 0, 1) := by decide +kernel
theorem dX1_clipsOn_6 : decode cX1_clipsOn 6 = .ok (.getfield 15, 3) := by decide +kernel
theorem dX1_clipsOn_9 : decode cX1_clipsOn 9 = .ok (.if_icmp .ge 27, 3) := by decide +kernel
theorem dX1_clipsOn_12 : decode cX1_clipsOn 12 = .ok (.iload_n 2, 1) := by decide +kernel
theorem dX1_clipsOn_13 : decode cX1_clipsOn 13 = .ok (.aload_n 0, 1) := by decide +kernel
theorem dX1_clipsOn_14 : decode cX1_clipsOn 14 = .ok (.iload_n 3, 1) := by decide +kernel
theorem dX1_clipsOn_15 : decode cX1_clipsOn 15 = .ok (.iconst 0, 1) := by decide +kernel
theorem dX1_clipsOn_16 : decode cX1_clipsOn 16 = .ok (.invokevirtual 19, 3) := by decide +kernel
theorem dX1_clipsOn_19 : decode cX1_clipsOn 19 = .ok (.iload_n 1, 1) := by decide +kernel
theorem dX1_clipsOn_20 : decode cX1_clipsOn 20 = .ok (.if_icmp .ne 7, 3) := by decide +kernel
theorem dX1_clipsOn_23 : decode cX1_clipsOn 23 = .ok (.iconst 1, 1) := by decide +kernel
theorem dX1_clipsOn_24 : decode cX1_clipsOn 24 = .ok (.goto 4, 3) := by decide +kernel
theorem dX1_clipsOn_27 : decode cX1_clipsOn 27 = .ok (.iconst 0, 1) := by decide +kernel
theorem dX1_clipsOn_28 : decode cX1_clipsOn 28 = .ok (.iadd, 1) := by decide +kernel
theorem dX1_clipsOn_29 : decode cX1_clipsOn 29 = .ok (.istore_n 2, 1) := by decide +kernel
theorem dX1_clipsOn_30 : decode cX1_clipsOn 30 = .ok (.iinc 3 1, 3) := by decide +kernel
theorem dX1_clipsOn_33 : decode cX1_clipsOn 33 = .ok (.goto (-29), 3) := by decide +kernel
theorem dX1_clipsOn_36 : decode cX1_clipsOn 36 = .ok (.iload_n 2, 1) := by decide +kernel
theorem dX1_clipsOn_37 : decode cX1_clipsOn 37 = .ok (.ireturn, 1) := by decide +kernel
theorem dX1_framesOn_0 : decode cX1_framesOn 0 = .ok (.iconst 0, 1) := by decide +kernel
theorem dX1_framesOn_1 : decode cX1_framesOn 1 = .ok (.istore_n 2, 1) := by decide +kernel
theorem dX1_framesOn_2 : decode cX1_framesOn 2 = .ok (.iconst 0, 1) := by decide +kernel
theorem dX1_framesOn_3 : decode cX1_framesOn 3 = .ok (.istore_n 3, 1) := by decide +kernel
theorem dX1_framesOn_4 : decode cX1_framesOn 4 = .ok (.iload_n 3, 1) := by decide +kernel
theorem dX1_framesOn_5 : decode cX1_framesOn 5 = .ok (.aload_n 0, 1) := by decide +kernel
theorem dX1_framesOn_6 : decode cX1_framesOn 6 = .ok (.getfield 15, 3) := by decide +kernel
theorem dX1_framesOn_9 : decode cX1_framesOn 9 = .ok (.if_icmp .ge 32, 3) := by decide +kernel
theorem dX1_framesOn_12 : decode cX1_framesOn 12 = .ok (.iload_n 2, 1) := by decide +kernel
theorem dX1_framesOn_13 : decode cX1_framesOn 13 = .ok (.aload_n 0, 1) := by decide +kernel
theorem dX1_framesOn_14 : decode cX1_framesOn 14 = .ok (.iload_n 3, 1) := by decide +kernel
theorem dX1_framesOn_15 : decode cX1_framesOn 15 = .ok (.iconst 0, 1) := by decide +kernel
theorem dX1_framesOn_16 : decode cX1_framesOn 16 = .ok (.invokevirtual 19, 3) := by decide +kernel
theorem dX1_framesOn_19 : decode cX1_framesOn 19 = .ok (.iload_n 1, 1) := by decide +kernel
theorem dX1_framesOn_20 : decode cX1_framesOn 20 = .ok (.if_icmp .ne 12, 3) := by decide +kernel
theorem dX1_framesOn_23 : decode cX1_framesOn 23 = .ok (.aload_n 0, 1) := by decide +kernel
theorem dX1_framesOn_24 : decode cX1_framesOn 24 = .ok (.iload_n 3, 1) := by decide +kernel
theorem dX1_framesOn_25 : decode cX1_framesOn 25 = .ok (.iconst 4, 1) := by decide +kernel
theorem dX1_framesOn_26 : decode cX1_framesOn 26 = .ok (.invokevirtual 19, 3) := by decide +kernel
theorem dX1_framesOn_29 : decode cX1_framesOn 29 = .ok (.goto 4, 3) := by decide +kernel
theorem dX1_framesOn_32 : decode cX1_framesOn 32 = .ok (.iconst 0, 1) := by decide +kernel
theorem dX1_framesOn_33 : decode cX1_framesOn 33 = .ok (.iadd, 1) := by decide +kernel
theorem dX1_framesOn_34 : decode cX1_framesOn 34 = .ok (.istore_n 2, 1) := by decide +kernel
theorem dX1_framesOn_35 : decode cX1_framesOn 35 = .ok (.iinc 3 1, 3) := by decide +kernel
theorem dX1_framesOn_38 : decode cX1_framesOn 38 = .ok (.goto (-34), 3) := by decide +kernel
theorem dX1_framesOn_41 : decode cX1_framesOn 41 = .ok (.iload_n 2, 1) := by decide +kernel
theorem dX1_framesOn_42 : decode cX1_framesOn 42 = .ok (.ireturn, 1) := by decide +kernel
theorem dX1_placeFor_0 : decode cX1_placeFor 0 = .ok (.iconst 0, 1) := by decide +kernel
theorem dX1_placeFor_1 : decode cX1_placeFor 1 = .ok (.istore_n 3, 1) := by decide +kernel
theorem dX1_placeFor_2 : decode cX1_placeFor 2 = .ok (.iconst 0, 1) := by decide +kernel
theorem dX1_placeFor_3 : decode cX1_placeFor 3 = .ok (.istore 4, 2) := by decide +kernel
theorem dX1_placeFor_5 : decode cX1_placeFor 5 = .ok (.iload 4, 2) := by decide +kernel
theorem dX1_placeFor_7 : decode cX1_placeFor 7 = .ok (.aload_n 0, 1) := by decide +kernel
theorem dX1_placeFor_8 : decode cX1_placeFor 8 = .ok (.getfield 15, 3) := by decide +kernel
theorem dX1_placeFor_11 : decode cX1_placeFor 11 = .ok (.if_icmp .ge 44, 3) := by decide +kernel
theorem dX1_placeFor_14 : decode cX1_placeFor 14 = .ok (.aload_n 0, 1) := by decide +kernel
theorem dX1_placeFor_15 : decode cX1_placeFor 15 = .ok (.iload 4, 2) := by decide +kernel
theorem dX1_placeFor_17 : decode cX1_placeFor 17 = .ok (.iconst 0, 1) := by decide +kernel
theorem dX1_placeFor_18 : decode cX1_placeFor 18 = .ok (.invokevirtual 19, 3) := by decide +kernel
theorem dX1_placeFor_21 : decode cX1_placeFor 21 = .ok (.istore 5, 2) := by decide +kernel
theorem dX1_placeFor_23 : decode cX1_placeFor 23 = .ok (.iload 5, 2) := by decide +kernel
theorem dX1_placeFor_25 : decode cX1_placeFor 25 = .ok (.iload_n 1, 1) := by decide +kernel
theorem dX1_placeFor_26 : decode cX1_placeFor 26 = .ok (.if_icmp .lt 20, 3) := by decide +kernel
theorem dX1_placeFor_29 : decode cX1_placeFor 29 = .ok (.iload 5, 2) := by decide +kernel
theorem dX1_placeFor_31 : decode cX1_placeFor 31 = .ok (.iload_n 1, 1) := by decide +kernel
theorem dX1_placeFor_32 : decode cX1_placeFor 32 = .ok (.if_icmp .ne 17, 3) := by decide +kernel
theorem dX1_placeFor_35 : decode cX1_placeFor 35 = .ok (.aload_n 0, 1) := by decide +kernel
theorem dX1_placeFor_36 : decode cX1_placeFor 36 = .ok (.iload 4, 2) := by decide +kernel
theorem dX1_placeFor_38 : decode cX1_placeFor 38 = .ok (.iconst 1, 1) := by decide +kernel
theorem dX1_placeFor_39 : decode cX1_placeFor 39 = .ok (.invokevirtual 19, 3) := by decide +kernel
theorem dX1_placeFor_42 : decode cX1_placeFor 42 = .ok (.iload_n 2, 1) := by decide +kernel
theorem dX1_placeFor_43 : decode cX1_placeFor 43 = .ok (.if_icmp .ge 6, 3) := by decide +kernel
theorem dX1_placeFor_46 : decode cX1_placeFor 46 = .ok (.iinc 3 1, 3) := by decide +kernel
theorem dX1_placeFor_49 : decode cX1_placeFor 49 = .ok (.iinc 4 1, 3) := by decide +kernel
theorem dX1_placeFor_52 : decode cX1_placeFor 52 = .ok (.goto (-47), 3) := by decide +kernel
theorem dX1_placeFor_55 : decode cX1_placeFor 55 = .ok (.iload_n 3, 1) := by decide +kernel
theorem dX1_placeFor_56 : decode cX1_placeFor 56 = .ok (.ireturn, 1) := by decide +kernel
theorem dX1_openRow_0 : decode cX1_openRow 0 = .ok (.iload_n 1, 1) := by decide +kernel
theorem dX1_openRow_1 : decode cX1_openRow 1 = .ok (.bipush 8, 2) := by decide +kernel
theorem dX1_openRow_3 : decode cX1_openRow 3 = .ok (.imul, 1) := by decide +kernel
theorem dX1_openRow_4 : decode cX1_openRow 4 = .ok (.istore_n 2, 1) := by decide +kernel
theorem dX1_openRow_5 : decode cX1_openRow 5 = .ok (.aload_n 0, 1) := by decide +kernel
theorem dX1_openRow_6 : decode cX1_openRow 6 = .ok (.getfield 9, 3) := by decide +kernel
theorem dX1_openRow_9 : decode cX1_openRow 9 = .ok (.iload_n 2, 1) := by decide +kernel
theorem dX1_openRow_10 : decode cX1_openRow 10 = .ok (.aload_n 0, 1) := by decide +kernel
theorem dX1_openRow_11 : decode cX1_openRow 11 = .ok (.getfield 9, 3) := by decide +kernel
theorem dX1_openRow_14 : decode cX1_openRow 14 = .ok (.iload_n 2, 1) := by decide +kernel
theorem dX1_openRow_15 : decode cX1_openRow 15 = .ok (.bipush 8, 2) := by decide +kernel
theorem dX1_openRow_17 : decode cX1_openRow 17 = .ok (.iadd, 1) := by decide +kernel
theorem dX1_openRow_18 : decode cX1_openRow 18 = .ok (.aload_n 0, 1) := by decide +kernel
theorem dX1_openRow_19 : decode cX1_openRow 19 = .ok (.getfield 15, 3) := by decide +kernel
theorem dX1_openRow_22 : decode cX1_openRow 22 = .ok (.iload_n 1, 1) := by decide +kernel
theorem dX1_openRow_23 : decode cX1_openRow 23 = .ok (.isub, 1) := by decide +kernel
theorem dX1_openRow_24 : decode cX1_openRow 24 = .ok (.bipush 8, 2) := by decide +kernel
theorem dX1_openRow_26 : decode cX1_openRow 26 = .ok (.imul, 1) := by decide +kernel
theorem dX1_openRow_27 : decode cX1_openRow 27 = .ok (.invokestatic 32, 3) := by decide +kernel
theorem dX1_openRow_30 : decode cX1_openRow 30 = .ok (.aload_n 0, 1) := by decide +kernel
theorem dX1_openRow_31 : decode cX1_openRow 31 = .ok (.dup, 1) := by decide +kernel
theorem dX1_openRow_32 : decode cX1_openRow 32 = .ok (.getfield 15, 3) := by decide +kernel
theorem dX1_openRow_35 : decode cX1_openRow 35 = .ok (.iconst 1, 1) := by decide +kernel
theorem dX1_openRow_36 : decode cX1_openRow 36 = .ok (.iadd, 1) := by decide +kernel
theorem dX1_openRow_37 : decode cX1_openRow 37 = .ok (.putfield 15, 3) := by decide +kernel
theorem dX1_openRow_40 : decode cX1_openRow 40 = .ok (.return_, 1) := by decide +kernel
theorem dX1_closeRow_0 : decode cX1_closeRow 0 = .ok (.iload_n 1, 1) := by decide +kernel
theorem dX1_closeRow_1 : decode cX1_closeRow 1 = .ok (.bipush 8, 2) := by decide +kernel
theorem dX1_closeRow_3 : decode cX1_closeRow 3 = .ok (.imul, 1) := by decide +kernel
theorem dX1_closeRow_4 : decode cX1_closeRow 4 = .ok (.istore_n 2, 1) := by decide +kernel
theorem dX1_closeRow_5 : decode cX1_closeRow 5 = .ok (.aload_n 0, 1) := by decide +kernel
theorem dX1_closeRow_6 : decode cX1_closeRow 6 = .ok (.dup, 1) := by decide +kernel
theorem dX1_closeRow_7 : decode cX1_closeRow 7 = .ok (.getfield 15, 3) := by decide +kernel
theorem dX1_closeRow_10 : decode cX1_closeRow 10 = .ok (.iconst 1, 1) := by decide +kernel
theorem dX1_closeRow_11 : decode cX1_closeRow 11 = .ok (.isub, 1) := by decide +kernel
theorem dX1_closeRow_12 : decode cX1_closeRow 12 = .ok (.putfield 15, 3) := by decide +kernel
theorem dX1_closeRow_15 : decode cX1_closeRow 15 = .ok (.aload_n 0, 1) := by decide +kernel
theorem dX1_closeRow_16 : decode cX1_closeRow 16 = .ok (.getfield 9, 3) := by decide +kernel
theorem dX1_closeRow_19 : decode cX1_closeRow 19 = .ok (.iload_n 2, 1) := by decide +kernel
theorem dX1_closeRow_20 : decode cX1_closeRow 20 = .ok (.bipush 8, 2) := by decide +kernel
theorem dX1_closeRow_22 : decode cX1_closeRow 22 = .ok (.iadd, 1) := by decide +kernel
theorem dX1_closeRow_23 : decode cX1_closeRow 23 = .ok (.aload_n 0, 1) := by decide +kernel
theorem dX1_closeRow_24 : decode cX1_closeRow 24 = .ok (.getfield 9, 3) := by decide +kernel
theorem dX1_closeRow_27 : decode cX1_closeRow 27 = .ok (.iload_n 2, 1) := by decide +kernel
theorem dX1_closeRow_28 : decode cX1_closeRow 28 = .ok (.aload_n 0, 1) := by decide +kernel
theorem dX1_closeRow_29 : decode cX1_closeRow 29 = .ok (.getfield 15, 3) := by decide +kernel
theorem dX1_closeRow_32 : decode cX1_closeRow 32 = .ok (.iload_n 1, 1) := by decide +kernel
theorem dX1_closeRow_33 : decode cX1_closeRow 33 = .ok (.isub, 1) := by decide +kernel
theorem dX1_closeRow_34 : decode cX1_closeRow 34 = .ok (.bipush 8, 2) := by decide +kernel
theorem dX1_closeRow_36 : decode cX1_closeRow 36 = .ok (.imul, 1) := by decide +kernel
theorem dX1_closeRow_37 : decode cX1_closeRow 37 = .ok (.invokestatic 32, 3) := by decide +kernel
theorem dX1_closeRow_40 : decode cX1_closeRow 40 = .ok (.return_, 1) := by decide +kernel
theorem dX1_copyRow_0 : decode cX1_copyRow 0 = .ok (.aload_n 0, 1) := by decide +kernel
theorem dX1_copyRow_1 : decode cX1_copyRow 1 = .ok (.getfield 9, 3) := by decide +kernel
theorem dX1_copyRow_4 : decode cX1_copyRow 4 = .ok (.iload_n 1, 1) := by decide +kernel
theorem dX1_copyRow_5 : decode cX1_copyRow 5 = .ok (.bipush 8, 2) := by decide +kernel
theorem dX1_copyRow_7 : decode cX1_copyRow 7 = .ok (.imul, 1) := by decide +kernel
theorem dX1_copyRow_8 : decode cX1_copyRow 8 = .ok (.aload_n 0, 1) := by decide +kernel
theorem dX1_copyRow_9 : decode cX1_copyRow 9 = .ok (.getfield 9, 3) := by decide +kernel
theorem dX1_copyRow_12 : decode cX1_copyRow 12 = .ok (.iload_n 2, 1) := by decide +kernel
theorem dX1_copyRow_13 : decode cX1_copyRow 13 = .ok (.bipush 8, 2) := by decide +kernel
theorem dX1_copyRow_15 : decode cX1_copyRow 15 = .ok (.imul, 1) := by decide +kernel
theorem dX1_copyRow_16 : decode cX1_copyRow 16 = .ok (.bipush 8, 2) := by decide +kernel
theorem dX1_copyRow_18 : decode cX1_copyRow 18 = .ok (.invokestatic 32, 3) := by decide +kernel
theorem dX1_copyRow_21 : decode cX1_copyRow 21 = .ok (.return_, 1) := by decide +kernel
theorem dX1_change_0 : decode cX1_change 0 = .ok (.aload_n 0, 1) := by decide +kernel
theorem dX1_change_1 : decode cX1_change 1 = .ok (.iload_n 1, 1) := by decide +kernel
theorem dX1_change_2 : decode cX1_change 2 = .ok (.invokevirtual 38, 3) := by decide +kernel
theorem dX1_change_5 : decode cX1_change 5 = .ok (.ifCond .ne 5, 3) := by decide +kernel
theorem dX1_change_8 : decode cX1_change 8 = .ok (.iconst (-1), 1) := by decide +kernel
theorem dX1_change_9 : decode cX1_change 9 = .ok (.ireturn, 1) := by decide +kernel
theorem dX1_change_10 : decode cX1_change 10 = .ok (.iload_n 2, 1) := by decide +kernel
theorem dX1_change_11 : decode cX1_change 11 = .ok (.ifCond .lt 12, 3) := by decide +kernel
theorem dX1_change_14 : decode cX1_change 14 = .ok (.iload_n 2, 1) := by decide +kernel
theorem dX1_change_15 : decode cX1_change 15 = .ok (.iconst 2, 1) := by decide +kernel
theorem dX1_change_16 : decode cX1_change 16 = .ok (.if_icmp .gt 7, 3) := by decide +kernel
theorem dX1_change_19 : decode cX1_change 19 = .ok (.iload_n 3, 1) := by decide +kernel
theorem dX1_change_20 : decode cX1_change 20 = .ok (.ifCond .ge 6, 3) := by decide +kernel
theorem dX1_change_23 : decode cX1_change 23 = .ok (.bipush (-2), 2) := by decide +kernel
theorem dX1_change_25 : decode cX1_change 25 = .ok (.ireturn, 1) := by decide +kernel
theorem dX1_change_26 : decode cX1_change 26 = .ok (.iload_n 2, 1) := by decide +kernel
theorem dX1_change_27 : decode cX1_change 27 = .ok (.iconst 1, 1) := by decide +kernel
theorem dX1_change_28 : decode cX1_change 28 = .ok (.if_icmp .ne 13, 3) := by decide +kernel
theorem dX1_change_31 : decode cX1_change 31 = .ok (.aload_n 0, 1) := by decide +kernel
theorem dX1_change_32 : decode cX1_change 32 = .ok (.iload_n 1, 1) := by decide +kernel
theorem dX1_change_33 : decode cX1_change 33 = .ok (.bipush 7, 2) := by decide +kernel
theorem dX1_change_35 : decode cX1_change 35 = .ok (.invokevirtual 19, 3) := by decide +kernel
theorem dX1_change_38 : decode cX1_change 38 = .ok (.goto 10, 3) := by decide +kernel
theorem dX1_change_41 : decode cX1_change 41 = .ok (.aload_n 0, 1) := by decide +kernel
theorem dX1_change_42 : decode cX1_change 42 = .ok (.iload_n 1, 1) := by decide +kernel
theorem dX1_change_43 : decode cX1_change 43 = .ok (.bipush 6, 2) := by decide +kernel
theorem dX1_change_45 : decode cX1_change 45 = .ok (.invokevirtual 19, 3) := by decide +kernel
theorem dX1_change_48 : decode cX1_change 48 = .ok (.istore 4, 2) := by decide +kernel
theorem dX1_change_50 : decode cX1_change 50 = .ok (.iload_n 3, 1) := by decide +kernel
theorem dX1_change_51 : decode cX1_change 51 = .ok (.iload_n 2, 1) := by decide +kernel
theorem dX1_change_52 : decode cX1_change 52 = .ok (.ifCond .ne 9, 3) := by decide +kernel
theorem dX1_change_55 : decode cX1_change 55 = .ok (.sipush 200, 3) := by decide +kernel
theorem dX1_change_58 : decode cX1_change 58 = .ok (.goto 12, 3) := by decide +kernel
theorem dX1_change_61 : decode cX1_change 61 = .ok (.aload_n 0, 1) := by decide +kernel
theorem dX1_change_62 : decode cX1_change 62 = .ok (.iload_n 1, 1) := by decide +kernel
theorem dX1_change_63 : decode cX1_change 63 = .ok (.iconst 4, 1) := by decide +kernel
theorem dX1_change_64 : decode cX1_change 64 = .ok (.invokevirtual 19, 3) := by decide +kernel
theorem dX1_change_67 : decode cX1_change 67 = .ok (.iload 4, 2) := by decide +kernel
theorem dX1_change_69 : decode cX1_change 69 = .ok (.isub, 1) := by decide +kernel
theorem dX1_change_70 : decode cX1_change 70 = .ok (.if_icmp .le 6, 3) := by decide +kernel
theorem dX1_change_73 : decode cX1_change 73 = .ok (.bipush (-2), 2) := by decide +kernel
theorem dX1_change_75 : decode cX1_change 75 = .ok (.ireturn, 1) := by decide +kernel
theorem dX1_change_76 : decode cX1_change 76 = .ok (.aload_n 0, 1) := by decide +kernel
theorem dX1_change_77 : decode cX1_change 77 = .ok (.iload_n 1, 1) := by decide +kernel
theorem dX1_change_78 : decode cX1_change 78 = .ok (.iconst 5, 1) := by decide +kernel
theorem dX1_change_79 : decode cX1_change 79 = .ok (.iload_n 2, 1) := by decide +kernel
theorem dX1_change_80 : decode cX1_change 80 = .ok (.iadd, 1) := by decide +kernel
theorem dX1_change_81 : decode cX1_change 81 = .ok (.invokevirtual 19, 3) := by decide +kernel
theorem dX1_change_84 : decode cX1_change 84 = .ok (.istore 5, 2) := by decide +kernel
theorem dX1_change_86 : decode cX1_change 86 = .ok (.aload_n 0, 1) := by decide +kernel
theorem dX1_change_87 : decode cX1_change 87 = .ok (.iload_n 1, 1) := by decide +kernel
theorem dX1_change_88 : decode cX1_change 88 = .ok (.iconst 5, 1) := by decide +kernel
theorem dX1_change_89 : decode cX1_change 89 = .ok (.iload_n 2, 1) := by decide +kernel
theorem dX1_change_90 : decode cX1_change 90 = .ok (.iadd, 1) := by decide +kernel
theorem dX1_change_91 : decode cX1_change 91 = .ok (.iload_n 3, 1) := by decide +kernel
theorem dX1_change_92 : decode cX1_change 92 = .ok (.invokevirtual 42, 3) := by decide +kernel
theorem dX1_change_95 : decode cX1_change 95 = .ok (.iload 5, 2) := by decide +kernel
theorem dX1_change_97 : decode cX1_change 97 = .ok (.ireturn, 1) := by decide +kernel
theorem dX1_shift_0 : decode cX1_shift 0 = .ok (.aload_n 0, 1) := by decide +kernel
theorem dX1_shift_1 : decode cX1_shift 1 = .ok (.iload_n 1, 1) := by decide +kernel
theorem dX1_shift_2 : decode cX1_shift 2 = .ok (.invokevirtual 38, 3) := by decide +kernel
theorem dX1_shift_5 : decode cX1_shift 5 = .ok (.ifCond .eq 10, 3) := by decide +kernel
theorem dX1_shift_8 : decode cX1_shift 8 = .ok (.iload_n 2, 1) := by decide +kernel
theorem dX1_shift_9 : decode cX1_shift 9 = .ok (.invokestatic 46, 3) := by decide +kernel
theorem dX1_shift_12 : decode cX1_shift 12 = .ok (.ifCond .ne 5, 3) := by decide +kernel
theorem dX1_shift_15 : decode cX1_shift 15 = .ok (.iconst (-1), 1) := by decide +kernel
theorem dX1_shift_16 : decode cX1_shift 16 = .ok (.ireturn, 1) := by decide +kernel
theorem dX1_shift_17 : decode cX1_shift 17 = .ok (.iload_n 3, 1) := by decide +kernel
theorem dX1_shift_18 : decode cX1_shift 18 = .ok (.ifCond .lt 17, 3) := by decide +kernel
theorem dX1_shift_21 : decode cX1_shift 21 = .ok (.iload_n 3, 1) := by decide +kernel
theorem dX1_shift_22 : decode cX1_shift 22 = .ok (.sipush 600, 3) := by decide +kernel
theorem dX1_shift_25 : decode cX1_shift 25 = .ok (.aload_n 0, 1) := by decide +kernel
theorem dX1_shift_26 : decode cX1_shift 26 = .ok (.iload_n 1, 1) := by decide +kernel
theorem dX1_shift_27 : decode cX1_shift 27 = .ok (.iconst 4, 1) := by decide +kernel
theorem dX1_shift_28 : decode cX1_shift 28 = .ok (.invokevirtual 19, 3) := by decide +kernel
theorem dX1_shift_31 : decode cX1_shift 31 = .ok (.isub, 1) := by decide +kernel
theorem dX1_shift_32 : decode cX1_shift 32 = .ok (.if_icmp .le 6, 3) := by decide +kernel
theorem dX1_shift_35 : decode cX1_shift 35 = .ok (.bipush (-2), 2) := by decide +kernel
theorem dX1_shift_37 : decode cX1_shift 37 = .ok (.ireturn, 1) := by decide +kernel
theorem dX1_shift_38 : decode cX1_shift 38 = .ok (.aload_n 0, 1) := by decide +kernel
theorem dX1_shift_39 : decode cX1_shift 39 = .ok (.iload_n 2, 1) := by decide +kernel
theorem dX1_shift_40 : decode cX1_shift 40 = .ok (.iload_n 3, 1) := by decide +kernel
theorem dX1_shift_41 : decode cX1_shift 41 = .ok (.aload_n 0, 1) := by decide +kernel
theorem dX1_shift_42 : decode cX1_shift 42 = .ok (.iload_n 1, 1) := by decide +kernel
theorem dX1_shift_43 : decode cX1_shift 43 = .ok (.iconst 4, 1) := by decide +kernel
theorem dX1_shift_44 : decode cX1_shift 44 = .ok (.invokevirtual 19, 3) := by decide +kernel
theorem dX1_shift_47 : decode cX1_shift 47 = .ok (.iload_n 1, 1) := by decide +kernel
theorem dX1_shift_48 : decode cX1_shift 48 = .ok (.invokevirtual 49, 3) := by decide +kernel
theorem dX1_shift_51 : decode cX1_shift 51 = .ok (.ifCond .ne 6, 3) := by decide +kernel
theorem dX1_shift_54 : decode cX1_shift 54 = .ok (.bipush (-4), 2) := by decide +kernel
theorem dX1_shift_56 : decode cX1_shift 56 = .ok (.ireturn, 1) := by decide +kernel
theorem dX1_shift_57 : decode cX1_shift 57 = .ok (.aload_n 0, 1) := by decide +kernel
theorem dX1_shift_58 : decode cX1_shift 58 = .ok (.iload_n 1, 1) := by decide +kernel
theorem dX1_shift_59 : decode cX1_shift 59 = .ok (.iload_n 2, 1) := by decide +kernel
theorem dX1_shift_60 : decode cX1_shift 60 = .ok (.iload_n 3, 1) := by decide +kernel
theorem dX1_shift_61 : decode cX1_shift 61 = .ok (.invokevirtual 53, 3) := by decide +kernel
theorem dX1_shift_64 : decode cX1_shift 64 = .ok (.istore 4, 2) := by decide +kernel
theorem dX1_shift_66 : decode cX1_shift 66 = .ok (.iload_n 1, 1) := by decide +kernel
theorem dX1_shift_67 : decode cX1_shift 67 = .ok (.iload 4, 2) := by decide +kernel
theorem dX1_shift_69 : decode cX1_shift 69 = .ok (.if_icmp .ge 7, 3) := by decide +kernel
theorem dX1_shift_72 : decode cX1_shift 72 = .ok (.iload_n 1, 1) := by decide +kernel
theorem dX1_shift_73 : decode cX1_shift 73 = .ok (.goto 6, 3) := by decide +kernel
theorem dX1_shift_76 : decode cX1_shift 76 = .ok (.iload_n 1, 1) := by decide +kernel
theorem dX1_shift_77 : decode cX1_shift 77 = .ok (.iconst 1, 1) := by decide +kernel
theorem dX1_shift_78 : decode cX1_shift 78 = .ok (.iadd, 1) := by decide +kernel
theorem dX1_shift_79 : decode cX1_shift 79 = .ok (.istore 5, 2) := by decide +kernel
theorem dX1_shift_81 : decode cX1_shift 81 = .ok (.aload_n 0, 1) := by decide +kernel
theorem dX1_shift_82 : decode cX1_shift 82 = .ok (.iload 5, 2) := by decide +kernel
theorem dX1_shift_84 : decode cX1_shift 84 = .ok (.invokevirtual 57, 3) := by decide +kernel
theorem dX1_shift_87 : decode cX1_shift 87 = .ok (.iload 5, 2) := by decide +kernel
theorem dX1_shift_89 : decode cX1_shift 89 = .ok (.iload 4, 2) := by decide +kernel
theorem dX1_shift_91 : decode cX1_shift 91 = .ok (.if_icmp .ge 10, 3) := by decide +kernel
theorem dX1_shift_94 : decode cX1_shift 94 = .ok (.iload 4, 2) := by decide +kernel
theorem dX1_shift_96 : decode cX1_shift 96 = .ok (.iconst 1, 1) := by decide +kernel
theorem dX1_shift_97 : decode cX1_shift 97 = .ok (.isub, 1) := by decide +kernel
theorem dX1_shift_98 : decode cX1_shift 98 = .ok (.goto 5, 3) := by decide +kernel
theorem dX1_shift_101 : decode cX1_shift 101 = .ok (.iload 4, 2) := by decide +kernel
theorem dX1_shift_103 : decode cX1_shift 103 = .ok (.ireturn, 1) := by decide +kernel
theorem dX1_duplicate_0 : decode cX1_duplicate 0 = .ok (.aload_n 0, 1) := by decide +kernel
theorem dX1_duplicate_1 : decode cX1_duplicate 1 = .ok (.iload_n 1, 1) := by decide +kernel
theorem dX1_duplicate_2 : decode cX1_duplicate 2 = .ok (.invokevirtual 38, 3) := by decide +kernel
theorem dX1_duplicate_5 : decode cX1_duplicate 5 = .ok (.ifCond .eq 10, 3) := by decide +kernel
theorem dX1_duplicate_8 : decode cX1_duplicate 8 = .ok (.iload_n 2, 1) := by decide +kernel
theorem dX1_duplicate_9 : decode cX1_duplicate 9 = .ok (.invokestatic 46, 3) := by decide +kernel
theorem dX1_duplicate_12 : decode cX1_duplicate 12 = .ok (.ifCond .ne 5, 3) := by decide +kernel
theorem dX1_duplicate_15 : decode cX1_duplicate 15 = .ok (.iconst (-1), 1) := by decide +kernel
theorem dX1_duplicate_16 : decode cX1_duplicate 16 = .ok (.ireturn, 1) := by decide +kernel
theorem dX1_duplicate_17 : decode cX1_duplicate 17 = .ok (.iload_n 3, 1) := by decide +kernel
theorem dX1_duplicate_18 : decode cX1_duplicate 18 = .ok (.ifCond .lt 17, 3) := by decide +kernel
theorem dX1_duplicate_21 : decode cX1_duplicate 21 = .ok (.iload_n 3, 1) := by decide +kernel
theorem dX1_duplicate_22 : decode cX1_duplicate 22 = .ok (.sipush 600, 3) := by decide +kernel
theorem dX1_duplicate_25 : decode cX1_duplicate 25 = .ok (.aload_n 0, 1) := by decide +kernel
theorem dX1_duplicate_26 : decode cX1_duplicate 26 = .ok (.iload_n 1, 1) := by decide +kernel
theorem dX1_duplicate_27 : decode cX1_duplicate 27 = .ok (.iconst 4, 1) := by decide +kernel
theorem dX1_duplicate_28 : decode cX1_duplicate 28 = .ok (.invokevirtual 19, 3) := by decide +kernel
theorem dX1_duplicate_31 : decode cX1_duplicate 31 = .ok (.isub, 1) := by decide +kernel
theorem dX1_duplicate_32 : decode cX1_duplicate 32 = .ok (.if_icmp .le 6, 3) := by decide +kernel
theorem dX1_duplicate_35 : decode cX1_duplicate 35 = .ok (.bipush (-2), 2) := by decide +kernel
theorem dX1_duplicate_37 : decode cX1_duplicate 37 = .ok (.ireturn, 1) := by decide +kernel
theorem dX1_duplicate_38 : decode cX1_duplicate 38 = .ok (.aload_n 0, 1) := by decide +kernel
theorem dX1_duplicate_39 : decode cX1_duplicate 39 = .ok (.getfield 15, 3) := by decide +kernel
theorem dX1_duplicate_42 : decode cX1_duplicate 42 = .ok (.bipush 24, 2) := by decide +kernel
theorem dX1_duplicate_44 : decode cX1_duplicate 44 = .ok (.if_icmp .lt 6, 3) := by decide +kernel
theorem dX1_duplicate_47 : decode cX1_duplicate 47 = .ok (.bipush (-3), 2) := by decide +kernel
theorem dX1_duplicate_49 : decode cX1_duplicate 49 = .ok (.ireturn, 1) := by decide +kernel
theorem dX1_duplicate_50 : decode cX1_duplicate 50 = .ok (.aload_n 0, 1) := by decide +kernel
theorem dX1_duplicate_51 : decode cX1_duplicate 51 = .ok (.iload_n 2, 1) := by decide +kernel
theorem dX1_duplicate_52 : decode cX1_duplicate 52 = .ok (.iload_n 3, 1) := by decide +kernel
theorem dX1_duplicate_53 : decode cX1_duplicate 53 = .ok (.aload_n 0, 1) := by decide +kernel
theorem dX1_duplicate_54 : decode cX1_duplicate 54 = .ok (.iload_n 1, 1) := by decide +kernel
theorem dX1_duplicate_55 : decode cX1_duplicate 55 = .ok (.iconst 4, 1) := by decide +kernel
theorem dX1_duplicate_56 : decode cX1_duplicate 56 = .ok (.invokevirtual 19, 3) := by decide +kernel
theorem dX1_duplicate_59 : decode cX1_duplicate 59 = .ok (.iconst (-1), 1) := by decide +kernel
theorem dX1_duplicate_60 : decode cX1_duplicate 60 = .ok (.invokevirtual 49, 3) := by decide +kernel
theorem dX1_duplicate_63 : decode cX1_duplicate 63 = .ok (.ifCond .ne 6, 3) := by decide +kernel
theorem dX1_duplicate_66 : decode cX1_duplicate 66 = .ok (.bipush (-4), 2) := by decide +kernel
theorem dX1_duplicate_68 : decode cX1_duplicate 68 = .ok (.ireturn, 1) := by decide +kernel
theorem dX1_duplicate_69 : decode cX1_duplicate 69 = .ok (.aload_n 0, 1) := by decide +kernel
theorem dX1_duplicate_70 : decode cX1_duplicate 70 = .ok (.iload_n 1, 1) := by decide +kernel
theorem dX1_duplicate_71 : decode cX1_duplicate 71 = .ok (.iload_n 2, 1) := by decide +kernel
theorem dX1_duplicate_72 : decode cX1_duplicate 72 = .ok (.iload_n 3, 1) := by decide +kernel
theorem dX1_duplicate_73 : decode cX1_duplicate 73 = .ok (.invokevirtual 53, 3) := by decide +kernel
theorem dX1_duplicate_76 : decode cX1_duplicate 76 = .ok (.ireturn, 1) := by decide +kernel
theorem dX1_copyTo_0 : decode cX1_copyTo 0 = .ok (.aload_n 0, 1) := by decide +kernel
theorem dX1_copyTo_1 : decode cX1_copyTo 1 = .ok (.iload_n 2, 1) := by decide +kernel
theorem dX1_copyTo_2 : decode cX1_copyTo 2 = .ok (.iload_n 3, 1) := by decide +kernel
theorem dX1_copyTo_3 : decode cX1_copyTo 3 = .ok (.invokevirtual 61, 3) := by decide +kernel
theorem dX1_copyTo_6 : decode cX1_copyTo 6 = .ok (.istore 4, 2) := by decide +kernel
theorem dX1_copyTo_8 : decode cX1_copyTo 8 = .ok (.aload_n 0, 1) := by decide +kernel
theorem dX1_copyTo_9 : decode cX1_copyTo 9 = .ok (.iload 4, 2) := by decide +kernel
theorem dX1_copyTo_11 : decode cX1_copyTo 11 = .ok (.invokevirtual 64, 3) := by decide +kernel
theorem dX1_copyTo_14 : decode cX1_copyTo 14 = .ok (.aload_n 0, 1) := by decide +kernel
theorem dX1_copyTo_15 : decode cX1_copyTo 15 = .ok (.iload_n 1, 1) := by decide +kernel
theorem dX1_copyTo_16 : decode cX1_copyTo 16 = .ok (.iload 4, 2) := by decide +kernel
theorem dX1_copyTo_18 : decode cX1_copyTo 18 = .ok (.if_icmp .ge 7, 3) := by decide +kernel
theorem dX1_copyTo_21 : decode cX1_copyTo 21 = .ok (.iload_n 1, 1) := by decide +kernel
theorem dX1_copyTo_22 : decode cX1_copyTo 22 = .ok (.goto 6, 3) := by decide +kernel
theorem dX1_copyTo_25 : decode cX1_copyTo 25 = .ok (.iload_n 1, 1) := by decide +kernel
theorem dX1_copyTo_26 : decode cX1_copyTo 26 = .ok (.iconst 1, 1) := by decide +kernel
theorem dX1_copyTo_27 : decode cX1_copyTo 27 = .ok (.iadd, 1) := by decide +kernel
theorem dX1_copyTo_28 : decode cX1_copyTo 28 = .ok (.iload 4, 2) := by decide +kernel
theorem dX1_copyTo_30 : decode cX1_copyTo 30 = .ok (.invokevirtual 67, 3) := by decide +kernel
theorem dX1_copyTo_33 : decode cX1_copyTo 33 = .ok (.aload_n 0, 1) := by decide +kernel
theorem dX1_copyTo_34 : decode cX1_copyTo 34 = .ok (.iload 4, 2) := by decide +kernel
theorem dX1_copyTo_36 : decode cX1_copyTo 36 = .ok (.iconst 0, 1) := by decide +kernel
theorem dX1_copyTo_37 : decode cX1_copyTo 37 = .ok (.iload_n 2, 1) := by decide +kernel
theorem dX1_copyTo_38 : decode cX1_copyTo 38 = .ok (.invokevirtual 42, 3) := by decide +kernel
theorem dX1_copyTo_41 : decode cX1_copyTo 41 = .ok (.aload_n 0, 1) := by decide +kernel
theorem dX1_copyTo_42 : decode cX1_copyTo 42 = .ok (.iload 4, 2) := by decide +kernel
theorem dX1_copyTo_44 : decode cX1_copyTo 44 = .ok (.iconst 1, 1) := by decide +kernel
theorem dX1_copyTo_45 : decode cX1_copyTo 45 = .ok (.iload_n 3, 1) := by decide +kernel
theorem dX1_copyTo_46 : decode cX1_copyTo 46 = .ok (.invokevirtual 42, 3) := by decide +kernel
theorem dX1_copyTo_49 : decode cX1_copyTo 49 = .ok (.iload 4, 2) := by decide +kernel
theorem dX1_copyTo_51 : decode cX1_copyTo 51 = .ok (.ireturn, 1) := by decide +kernel
theorem dX1_divideOne_0 : decode cX1_divideOne 0 = .ok (.aload_n 0, 1) := by decide +kernel
theorem dX1_divideOne_1 : decode cX1_divideOne 1 = .ok (.iload_n 1, 1) := by decide +kernel
theorem dX1_divideOne_2 : decode cX1_divideOne 2 = .ok (.invokevirtual 38, 3) := by decide +kernel
theorem dX1_divideOne_5 : decode cX1_divideOne 5 = .ok (.ifCond .ne 5, 3) := by decide +kernel
theorem dX1_divideOne_8 : decode cX1_divideOne 8 = .ok (.iconst (-1), 1) := by decide +kernel
theorem dX1_divideOne_9 : decode cX1_divideOne 9 = .ok (.ireturn, 1) := by decide +kernel
theorem dX1_divideOne_10 : decode cX1_divideOne 10 = .ok (.iload_n 2, 1) := by decide +kernel
theorem dX1_divideOne_11 : decode cX1_divideOne 11 = .ok (.iconst 1, 1) := by decide +kernel
theorem dX1_divideOne_12 : decode cX1_divideOne 12 = .ok (.if_icmp .lt 13, 3) := by decide +kernel
theorem dX1_divideOne_15 : decode cX1_divideOne 15 = .ok (.iload_n 2, 1) := by decide +kernel
theorem dX1_divideOne_16 : decode cX1_divideOne 16 = .ok (.aload_n 0, 1) := by decide +kernel
theorem dX1_divideOne_17 : decode cX1_divideOne 17 = .ok (.iload_n 1, 1) := by decide +kernel
theorem dX1_divideOne_18 : decode cX1_divideOne 18 = .ok (.iconst 4, 1) := by decide +kernel
theorem dX1_divideOne_19 : decode cX1_divideOne 19 = .ok (.invokevirtual 19, 3) := by decide +kernel
theorem dX1_divideOne_22 : decode cX1_divideOne 22 = .ok (.if_icmp .lt 6, 3) := by decide +kernel
theorem dX1_divideOne_25 : decode cX1_divideOne 25 = .ok (.bipush (-2), 2) := by decide +kernel
theorem dX1_divideOne_27 : decode cX1_divideOne 27 = .ok (.ireturn, 1) := by decide +kernel
theorem dX1_divideOne_28 : decode cX1_divideOne 28 = .ok (.aload_n 0, 1) := by decide +kernel
theorem dX1_divideOne_29 : decode cX1_divideOne 29 = .ok (.getfield 15, 3) := by decide +kernel
theorem dX1_divideOne_32 : decode cX1_divideOne 32 = .ok (.bipush 24, 2) := by decide +kernel
theorem dX1_divideOne_34 : decode cX1_divideOne 34 = .ok (.if_icmp .lt 6, 3) := by decide +kernel
theorem dX1_divideOne_37 : decode cX1_divideOne 37 = .ok (.bipush (-3), 2) := by decide +kernel
theorem dX1_divideOne_39 : decode cX1_divideOne 39 = .ok (.ireturn, 1) := by decide +kernel
theorem dX1_divideOne_40 : decode cX1_divideOne 40 = .ok (.aload_n 0, 1) := by decide +kernel
theorem dX1_divideOne_41 : decode cX1_divideOne 41 = .ok (.iload_n 1, 1) := by decide +kernel
theorem dX1_divideOne_42 : decode cX1_divideOne 42 = .ok (.iload_n 2, 1) := by decide +kernel
theorem dX1_divideOne_43 : decode cX1_divideOne 43 = .ok (.invokevirtual 71, 3) := by decide +kernel
theorem dX1_divideOne_46 : decode cX1_divideOne 46 = .ok (.iload_n 1, 1) := by decide +kernel
theorem dX1_divideOne_47 : decode cX1_divideOne 47 = .ok (.iconst 1, 1) := by decide +kernel
theorem dX1_divideOne_48 : decode cX1_divideOne 48 = .ok (.iadd, 1) := by decide +kernel
theorem dX1_divideOne_49 : decode cX1_divideOne 49 = .ok (.ireturn, 1) := by decide +kernel
theorem dX1_takeOut_0 : decode cX1_takeOut 0 = .ok (.aload_n 0, 1) := by decide +kernel
theorem dX1_takeOut_1 : decode cX1_takeOut 1 = .ok (.iload_n 1, 1) := by decide +kernel
theorem dX1_takeOut_2 : decode cX1_takeOut 2 = .ok (.invokevirtual 38, 3) := by decide +kernel
theorem dX1_takeOut_5 : decode cX1_takeOut 5 = .ok (.ifCond .ne 5, 3) := by decide +kernel
theorem dX1_takeOut_8 : decode cX1_takeOut 8 = .ok (.iconst (-1), 1) := by decide +kernel
theorem dX1_takeOut_9 : decode cX1_takeOut 9 = .ok (.ireturn, 1) := by decide +kernel
theorem dX1_takeOut_10 : decode cX1_takeOut 10 = .ok (.aload_n 0, 1) := by decide +kernel
theorem dX1_takeOut_11 : decode cX1_takeOut 11 = .ok (.iload_n 1, 1) := by decide +kernel
theorem dX1_takeOut_12 : decode cX1_takeOut 12 = .ok (.invokevirtual 57, 3) := by decide +kernel
theorem dX1_takeOut_15 : decode cX1_takeOut 15 = .ok (.aload_n 0, 1) := by decide +kernel
theorem dX1_takeOut_16 : decode cX1_takeOut 16 = .ok (.getfield 15, 3) := by decide +kernel
theorem dX1_takeOut_19 : decode cX1_takeOut 19 = .ok (.ireturn, 1) := by decide +kernel
theorem dX1_split_0 : decode cX1_split 0 = .ok (.iload_n 1, 1) := by decide +kernel
theorem dX1_split_1 : decode cX1_split 1 = .ok (.iconst 1, 1) := by decide +kernel
theorem dX1_split_2 : decode cX1_split 2 = .ok (.iadd, 1) := by decide +kernel
theorem dX1_split_3 : decode cX1_split 3 = .ok (.istore_n 3, 1) := by decide +kernel
theorem dX1_split_4 : decode cX1_split 4 = .ok (.aload_n 0, 1) := by decide +kernel
theorem dX1_split_5 : decode cX1_split 5 = .ok (.iload_n 3, 1) := by decide +kernel
theorem dX1_split_6 : decode cX1_split 6 = .ok (.invokevirtual 64, 3) := by decide +kernel
theorem dX1_split_9 : decode cX1_split 9 = .ok (.aload_n 0, 1) := by decide +kernel
theorem dX1_split_10 : decode cX1_split 10 = .ok (.iload_n 1, 1) := by decide +kernel
theorem dX1_split_11 : decode cX1_split 11 = .ok (.iload_n 3, 1) := by decide +kernel
theorem dX1_split_12 : decode cX1_split 12 = .ok (.invokevirtual 67, 3) := by decide +kernel
theorem dX1_split_15 : decode cX1_split 15 = .ok (.aload_n 0, 1) := by decide +kernel
theorem dX1_split_16 : decode cX1_split 16 = .ok (.iload_n 1, 1) := by decide +kernel
theorem dX1_split_17 : decode cX1_split 17 = .ok (.iconst 4, 1) := by decide +kernel
theorem dX1_split_18 : decode cX1_split 18 = .ok (.iload_n 2, 1) := by decide +kernel
theorem dX1_split_19 : decode cX1_split 19 = .ok (.invokevirtual 42, 3) := by decide +kernel
theorem dX1_split_22 : decode cX1_split 22 = .ok (.aload_n 0, 1) := by decide +kernel
theorem dX1_split_23 : decode cX1_split 23 = .ok (.iload_n 1, 1) := by decide +kernel
theorem dX1_split_24 : decode cX1_split 24 = .ok (.bipush 7, 2) := by decide +kernel
theorem dX1_split_26 : decode cX1_split 26 = .ok (.iconst 0, 1) := by decide +kernel
theorem dX1_split_27 : decode cX1_split 27 = .ok (.invokevirtual 42, 3) := by decide +kernel
theorem dX1_split_30 : decode cX1_split 30 = .ok (.aload_n 0, 1) := by decide +kernel
theorem dX1_split_31 : decode cX1_split 31 = .ok (.iload_n 1, 1) := by decide +kernel
theorem dX1_split_32 : decode cX1_split 32 = .ok (.invokevirtual 74, 3) := by decide +kernel
theorem dX1_split_35 : decode cX1_split 35 = .ok (.aload_n 0, 1) := by decide +kernel
theorem dX1_split_36 : decode cX1_split 36 = .ok (.iload_n 3, 1) := by decide +kernel
theorem dX1_split_37 : decode cX1_split 37 = .ok (.iconst 1, 1) := by decide +kernel
theorem dX1_split_38 : decode cX1_split 38 = .ok (.aload_n 0, 1) := by decide +kernel
theorem dX1_split_39 : decode cX1_split 39 = .ok (.iload_n 3, 1) := by decide +kernel
theorem dX1_split_40 : decode cX1_split 40 = .ok (.iconst 1, 1) := by decide +kernel
theorem dX1_split_41 : decode cX1_split 41 = .ok (.invokevirtual 19, 3) := by decide +kernel
theorem dX1_split_44 : decode cX1_split 44 = .ok (.iload_n 2, 1) := by decide +kernel
theorem dX1_split_45 : decode cX1_split 45 = .ok (.iadd, 1) := by decide +kernel
theorem dX1_split_46 : decode cX1_split 46 = .ok (.invokevirtual 42, 3) := by decide +kernel
theorem dX1_split_49 : decode cX1_split 49 = .ok (.aload_n 0, 1) := by decide +kernel
theorem dX1_split_50 : decode cX1_split 50 = .ok (.iload_n 3, 1) := by decide +kernel
theorem dX1_split_51 : decode cX1_split 51 = .ok (.iconst 3, 1) := by decide +kernel
theorem dX1_split_52 : decode cX1_split 52 = .ok (.aload_n 0, 1) := by decide +kernel
theorem dX1_split_53 : decode cX1_split 53 = .ok (.iload_n 3, 1) := by decide +kernel
theorem dX1_split_54 : decode cX1_split 54 = .ok (.iconst 3, 1) := by decide +kernel
theorem dX1_split_55 : decode cX1_split 55 = .ok (.invokevirtual 19, 3) := by decide +kernel
theorem dX1_split_58 : decode cX1_split 58 = .ok (.iload_n 2, 1) := by decide +kernel
theorem dX1_split_59 : decode cX1_split 59 = .ok (.iadd, 1) := by decide +kernel
theorem dX1_split_60 : decode cX1_split 60 = .ok (.invokevirtual 42, 3) := by decide +kernel
theorem dX1_split_63 : decode cX1_split 63 = .ok (.aload_n 0, 1) := by decide +kernel
theorem dX1_split_64 : decode cX1_split 64 = .ok (.iload_n 3, 1) := by decide +kernel
theorem dX1_split_65 : decode cX1_split 65 = .ok (.iconst 4, 1) := by decide +kernel
theorem dX1_split_66 : decode cX1_split 66 = .ok (.aload_n 0, 1) := by decide +kernel
theorem dX1_split_67 : decode cX1_split 67 = .ok (.iload_n 3, 1) := by decide +kernel
theorem dX1_split_68 : decode cX1_split 68 = .ok (.iconst 4, 1) := by decide +kernel
theorem dX1_split_69 : decode cX1_split 69 = .ok (.invokevirtual 19, 3) := by decide +kernel
theorem dX1_split_72 : decode cX1_split 72 = .ok (.iload_n 2, 1) := by decide +kernel
theorem dX1_split_73 : decode cX1_split 73 = .ok (.isub, 1) := by decide +kernel
theorem dX1_split_74 : decode cX1_split 74 = .ok (.invokevirtual 42, 3) := by decide +kernel
theorem dX1_split_77 : decode cX1_split 77 = .ok (.aload_n 0, 1) := by decide +kernel
theorem dX1_split_78 : decode cX1_split 78 = .ok (.iload_n 3, 1) := by decide +kernel
theorem dX1_split_79 : decode cX1_split 79 = .ok (.bipush 6, 2) := by decide +kernel
theorem dX1_split_81 : decode cX1_split 81 = .ok (.iconst 0, 1) := by decide +kernel
theorem dX1_split_82 : decode cX1_split 82 = .ok (.invokevirtual 42, 3) := by decide +kernel
theorem dX1_split_85 : decode cX1_split 85 = .ok (.aload_n 0, 1) := by decide +kernel
theorem dX1_split_86 : decode cX1_split 86 = .ok (.iload_n 3, 1) := by decide +kernel
theorem dX1_split_87 : decode cX1_split 87 = .ok (.invokevirtual 74, 3) := by decide +kernel
theorem dX1_split_90 : decode cX1_split 90 = .ok (.return_, 1) := by decide +kernel
theorem dX1_fitFades_0 : decode cX1_fitFades 0 = .ok (.aload_n 0, 1) := by decide +kernel
theorem dX1_fitFades_1 : decode cX1_fitFades 1 = .ok (.iload_n 1, 1) := by decide +kernel
theorem dX1_fitFades_2 : decode cX1_fitFades 2 = .ok (.iconst 4, 1) := by decide +kernel
theorem dX1_fitFades_3 : decode cX1_fitFades 3 = .ok (.invokevirtual 19, 3) := by decide +kernel
theorem dX1_fitFades_6 : decode cX1_fitFades 6 = .ok (.istore_n 2, 1) := by decide +kernel
theorem dX1_fitFades_7 : decode cX1_fitFades 7 = .ok (.aload_n 0, 1) := by decide +kernel
theorem dX1_fitFades_8 : decode cX1_fitFades 8 = .ok (.iload_n 1, 1) := by decide +kernel
theorem dX1_fitFades_9 : decode cX1_fitFades 9 = .ok (.bipush 6, 2) := by decide +kernel
theorem dX1_fitFades_11 : decode cX1_fitFades 11 = .ok (.invokevirtual 19, 3) := by decide +kernel
theorem dX1_fitFades_14 : decode cX1_fitFades 14 = .ok (.iload_n 2, 1) := by decide +kernel
theorem dX1_fitFades_15 : decode cX1_fitFades 15 = .ok (.invokestatic 77, 3) := by decide +kernel
theorem dX1_fitFades_18 : decode cX1_fitFades 18 = .ok (.istore_n 3, 1) := by decide +kernel
theorem dX1_fitFades_19 : decode cX1_fitFades 19 = .ok (.aload_n 0, 1) := by decide +kernel
theorem dX1_fitFades_20 : decode cX1_fitFades 20 = .ok (.iload_n 1, 1) := by decide +kernel
theorem dX1_fitFades_21 : decode cX1_fitFades 21 = .ok (.bipush 6, 2) := by decide +kernel
theorem dX1_fitFades_23 : decode cX1_fitFades 23 = .ok (.iload_n 3, 1) := by decide +kernel
theorem dX1_fitFades_24 : decode cX1_fitFades 24 = .ok (.invokevirtual 42, 3) := by decide +kernel
theorem dX1_fitFades_27 : decode cX1_fitFades 27 = .ok (.aload_n 0, 1) := by decide +kernel
theorem dX1_fitFades_28 : decode cX1_fitFades 28 = .ok (.iload_n 1, 1) := by decide +kernel
theorem dX1_fitFades_29 : decode cX1_fitFades 29 = .ok (.bipush 7, 2) := by decide +kernel
theorem dX1_fitFades_31 : decode cX1_fitFades 31 = .ok (.aload_n 0, 1) := by decide +kernel
theorem dX1_fitFades_32 : decode cX1_fitFades 32 = .ok (.iload_n 1, 1) := by decide +kernel
theorem dX1_fitFades_33 : decode cX1_fitFades 33 = .ok (.bipush 7, 2) := by decide +kernel
theorem dX1_fitFades_35 : decode cX1_fitFades 35 = .ok (.invokevirtual 19, 3) := by decide +kernel
theorem dX1_fitFades_38 : decode cX1_fitFades 38 = .ok (.iload_n 2, 1) := by decide +kernel
theorem dX1_fitFades_39 : decode cX1_fitFades 39 = .ok (.iload_n 3, 1) := by decide +kernel
theorem dX1_fitFades_40 : decode cX1_fitFades 40 = .ok (.isub, 1) := by decide +kernel
theorem dX1_fitFades_41 : decode cX1_fitFades 41 = .ok (.invokestatic 77, 3) := by decide +kernel
theorem dX1_fitFades_44 : decode cX1_fitFades 44 = .ok (.invokevirtual 42, 3) := by decide +kernel
theorem dX1_fitFades_47 : decode cX1_fitFades 47 = .ok (.return_, 1) := by decide +kernel
theorem dX1_isAcross_0 : decode cX1_isAcross 0 = .ok (.aload_n 0, 1) := by decide +kernel
theorem dX1_isAcross_1 : decode cX1_isAcross 1 = .ok (.iload_n 1, 1) := by decide +kernel
theorem dX1_isAcross_2 : decode cX1_isAcross 2 = .ok (.iconst 1, 1) := by decide +kernel
theorem dX1_isAcross_3 : decode cX1_isAcross 3 = .ok (.invokevirtual 19, 3) := by decide +kernel
theorem dX1_isAcross_6 : decode cX1_isAcross 6 = .ok (.iload_n 2, 1) := by decide +kernel
theorem dX1_isAcross_7 : decode cX1_isAcross 7 = .ok (.if_icmp .ge 16, 3) := by decide +kernel
theorem dX1_isAcross_10 : decode cX1_isAcross 10 = .ok (.iload_n 2, 1) := by decide +kernel
theorem dX1_isAcross_11 : decode cX1_isAcross 11 = .ok (.aload_n 0, 1) := by decide +kernel
theorem dX1_isAcross_12 : decode cX1_isAcross 12 = .ok (.iload_n 1, 1) := by decide +kernel
theorem dX1_isAcross_13 : decode cX1_isAcross 13 = .ok (.invokevirtual 23, 3) := by decide +kernel
theorem dX1_isAcross_16 : decode cX1_isAcross 16 = .ok (.if_icmp .ge 7, 3) := by decide +kernel
theorem dX1_isAcross_19 : decode cX1_isAcross 19 = .ok (.iconst 1, 1) := by decide +kernel
theorem dX1_isAcross_20 : decode cX1_isAcross 20 = .ok (.goto 4, 3) := by decide +kernel
theorem dX1_isAcross_23 : decode cX1_isAcross 23 = .ok (.iconst 0, 1) := by decide +kernel
theorem dX1_isAcross_24 : decode cX1_isAcross 24 = .ok (.ireturn, 1) := by decide +kernel
theorem dX1_clipsAcross_0 : decode cX1_clipsAcross 0 = .ok (.iconst 0, 1) := by decide +kernel
theorem dX1_clipsAcross_1 : decode cX1_clipsAcross 1 = .ok (.istore_n 2, 1) := by decide +kernel
theorem dX1_clipsAcross_2 : decode cX1_clipsAcross 2 = .ok (.iconst 0, 1) := by decide +kernel
theorem dX1_clipsAcross_3 : decode cX1_clipsAcross 3 = .ok (.istore_n 3, 1) := by decide +kernel
theorem dX1_clipsAcross_4 : decode cX1_clipsAcross 4 = .ok (.iload_n 3, 1) := by decide +kernel
theorem dX1_clipsAcross_5 : decode cX1_clipsAcross 5 = .ok (.aload_n 0, 1) := by decide +kernel
theorem dX1_clipsAcross_6 : decode cX1_clipsAcross 6 = .ok (.getfield 15, 3) := by decide +kernel
theorem dX1_clipsAcross_9 : decode cX1_clipsAcross 9 = .ok (.if_icmp .ge 26, 3) := by decide +kernel
theorem dX1_clipsAcross_12 : decode cX1_clipsAcross 12 = .ok (.iload_n 2, 1) := by decide +kernel
theorem dX1_clipsAcross_13 : decode cX1_clipsAcross 13 = .ok (.aload_n 0, 1) := by decide +kernel
theorem dX1_clipsAcross_14 : decode cX1_clipsAcross 14 = .ok (.iload_n 3, 1) := by decide +kernel
theorem dX1_clipsAcross_15 : decode cX1_clipsAcross 15 = .ok (.iload_n 1, 1) := by decide +kernel
theorem dX1_clipsAcross_16 : decode cX1_clipsAcross 16 = .ok (.invokevirtual 80, 3) := by decide +kernel
theorem dX1_clipsAcross_19 : decode cX1_clipsAcross 19 = .ok (.ifCond .eq 7, 3) := by decide +kernel
theorem dX1_clipsAcross_22 : decode cX1_clipsAcross 22 = .ok (.iconst 1, 1) := by decide +kernel
theorem dX1_clipsAcross_23 : decode cX1_clipsAcross 23 = .ok (.goto 4, 3) := by decide +kernel
theorem dX1_clipsAcross_26 : decode cX1_clipsAcross 26 = .ok (.iconst 0, 1) := by decide +kernel
theorem dX1_clipsAcross_27 : decode cX1_clipsAcross 27 = .ok (.iadd, 1) := by decide +kernel
theorem dX1_clipsAcross_28 : decode cX1_clipsAcross 28 = .ok (.istore_n 2, 1) := by decide +kernel
theorem dX1_clipsAcross_29 : decode cX1_clipsAcross 29 = .ok (.iinc 3 1, 3) := by decide +kernel
theorem dX1_clipsAcross_32 : decode cX1_clipsAcross 32 = .ok (.goto (-28), 3) := by decide +kernel
theorem dX1_clipsAcross_35 : decode cX1_clipsAcross 35 = .ok (.iload_n 2, 1) := by decide +kernel
theorem dX1_clipsAcross_36 : decode cX1_clipsAcross 36 = .ok (.ireturn, 1) := by decide +kernel
theorem dX1_divideAllAt_0 : decode cX1_divideAllAt 0 = .ok (.aload_n 0, 1) := by decide +kernel
theorem dX1_divideAllAt_1 : decode cX1_divideAllAt 1 = .ok (.getfield 15, 3) := by decide +kernel
theorem dX1_divideAllAt_4 : decode cX1_divideAllAt 4 = .ok (.iconst 1, 1) := by decide +kernel
theorem dX1_divideAllAt_5 : decode cX1_divideAllAt 5 = .ok (.isub, 1) := by decide +kernel
theorem dX1_divideAllAt_6 : decode cX1_divideAllAt 6 = .ok (.istore_n 2, 1) := by decide +kernel
theorem dX1_divideAllAt_7 : decode cX1_divideAllAt 7 = .ok (.iload_n 2, 1) := by decide +kernel
theorem dX1_divideAllAt_8 : decode cX1_divideAllAt 8 = .ok (.ifCond .lt 40, 3) := by decide +kernel
theorem dX1_divideAllAt_11 : decode cX1_divideAllAt 11 = .ok (.aload_n 0, 1) := by decide +kernel
theorem dX1_divideAllAt_12 : decode cX1_divideAllAt 12 = .ok (.iload_n 2, 1) := by decide +kernel
theorem dX1_divideAllAt_13 : decode cX1_divideAllAt 13 = .ok (.iload_n 1, 1) := by decide +kernel
theorem dX1_divideAllAt_14 : decode cX1_divideAllAt 14 = .ok (.invokevirtual 80, 3) := by decide +kernel
theorem dX1_divideAllAt_17 : decode cX1_divideAllAt 17 = .ok (.ifCond .eq 25, 3) := by decide +kernel
theorem dX1_divideAllAt_20 : decode cX1_divideAllAt 20 = .ok (.aload_n 0, 1) := by decide +kernel
theorem dX1_divideAllAt_21 : decode cX1_divideAllAt 21 = .ok (.getfield 15, 3) := by decide +kernel
theorem dX1_divideAllAt_24 : decode cX1_divideAllAt 24 = .ok (.bipush 32, 2) := by decide +kernel
theorem dX1_divideAllAt_26 : decode cX1_divideAllAt 26 = .ok (.if_icmp .ge 16, 3) := by decide +kernel
theorem dX1_divideAllAt_29 : decode cX1_divideAllAt 29 = .ok (.aload_n 0, 1) := by decide +kernel
theorem dX1_divideAllAt_30 : decode cX1_divideAllAt 30 = .ok (.iload_n 2, 1) := by decide +kernel
theorem dX1_divideAllAt_31 : decode cX1_divideAllAt 31 = .ok (.iload_n 1, 1) := by decide +kernel
theorem dX1_divideAllAt_32 : decode cX1_divideAllAt 32 = .ok (.aload_n 0, 1) := by decide +kernel
theorem dX1_divideAllAt_33 : decode cX1_divideAllAt 33 = .ok (.iload_n 2, 1) := by decide +kernel
theorem dX1_divideAllAt_34 : decode cX1_divideAllAt 34 = .ok (.iconst 1, 1) := by decide +kernel
theorem dX1_divideAllAt_35 : decode cX1_divideAllAt 35 = .ok (.invokevirtual 19, 3) := by decide +kernel
theorem dX1_divideAllAt_38 : decode cX1_divideAllAt 38 = .ok (.isub, 1) := by decide +kernel
theorem dX1_divideAllAt_39 : decode cX1_divideAllAt 39 = .ok (.invokevirtual 71, 3) := by decide +kernel
theorem dX1_divideAllAt_42 : decode cX1_divideAllAt 42 = .ok (.iinc 2 (-1), 3) := by decide +kernel
theorem dX1_divideAllAt_45 : decode cX1_divideAllAt 45 = .ok (.goto (-38), 3) := by decide +kernel
theorem dX1_divideAllAt_48 : decode cX1_divideAllAt 48 = .ok (.return_, 1) := by decide +kernel
theorem dX1_clipsAfterCut_0 : decode cX1_clipsAfterCut 0 = .ok (.iconst 0, 1) := by decide +kernel
theorem dX1_clipsAfterCut_1 : decode cX1_clipsAfterCut 1 = .ok (.istore_n 3, 1) := by decide +kernel
theorem dX1_clipsAfterCut_2 : decode cX1_clipsAfterCut 2 = .ok (.iconst 0, 1) := by decide +kernel
theorem dX1_clipsAfterCut_3 : decode cX1_clipsAfterCut 3 = .ok (.istore 4, 2) := by decide +kernel
theorem dX1_clipsAfterCut_5 : decode cX1_clipsAfterCut 5 = .ok (.iload 4, 2) := by decide +kernel
theorem dX1_clipsAfterCut_7 : decode cX1_clipsAfterCut 7 = .ok (.aload_n 0, 1) := by decide +kernel
theorem dX1_clipsAfterCut_8 : decode cX1_clipsAfterCut 8 = .ok (.getfield 15, 3) := by decide +kernel
theorem dX1_clipsAfterCut_11 : decode cX1_clipsAfterCut 11 = .ok (.if_icmp .ge 46, 3) := by decide +kernel
theorem dX1_clipsAfterCut_14 : decode cX1_clipsAfterCut 14 = .ok (.iload_n 3, 1) := by decide +kernel
theorem dX1_clipsAfterCut_15 : decode cX1_clipsAfterCut 15 = .ok (.aload_n 0, 1) := by decide +kernel
theorem dX1_clipsAfterCut_16 : decode cX1_clipsAfterCut 16 = .ok (.iload 4, 2) := by decide +kernel
theorem dX1_clipsAfterCut_18 : decode cX1_clipsAfterCut 18 = .ok (.iconst 1, 1) := by decide +kernel
theorem dX1_clipsAfterCut_19 : decode cX1_clipsAfterCut 19 = .ok (.invokevirtual 19, 3) := by decide +kernel
theorem dX1_clipsAfterCut_22 : decode cX1_clipsAfterCut 22 = .ok (.iload_n 1, 1) := by decide +kernel
theorem dX1_clipsAfterCut_23 : decode cX1_clipsAfterCut 23 = .ok (.if_icmp .ge 7, 3) := by decide +kernel
theorem dX1_clipsAfterCut_26 : decode cX1_clipsAfterCut 26 = .ok (.iconst 1, 1) := by decide +kernel
theorem dX1_clipsAfterCut_27 : decode cX1_clipsAfterCut 27 = .ok (.goto 4, 3) := by decide +kernel
theorem dX1_clipsAfterCut_30 : decode cX1_clipsAfterCut 30 = .ok (.iconst 0, 1) := by decide +kernel
theorem dX1_clipsAfterCut_31 : decode cX1_clipsAfterCut 31 = .ok (.iadd, 1) := by decide +kernel
theorem dX1_clipsAfterCut_32 : decode cX1_clipsAfterCut 32 = .ok (.istore_n 3, 1) := by decide +kernel
theorem dX1_clipsAfterCut_33 : decode cX1_clipsAfterCut 33 = .ok (.iload_n 3, 1) := by decide +kernel
theorem dX1_clipsAfterCut_34 : decode cX1_clipsAfterCut 34 = .ok (.aload_n 0, 1) := by decide +kernel
theorem dX1_clipsAfterCut_35 : decode cX1_clipsAfterCut 35 = .ok (.iload 4, 2) := by decide +kernel
theorem dX1_clipsAfterCut_37 : decode cX1_clipsAfterCut 37 = .ok (.invokevirtual 23, 3) := by decide +kernel
theorem dX1_clipsAfterCut_40 : decode cX1_clipsAfterCut 40 = .ok (.iload_n 2, 1) := by decide +kernel
theorem dX1_clipsAfterCut_41 : decode cX1_clipsAfterCut 41 = .ok (.if_icmp .le 7, 3) := by decide +kernel
theorem dX1_clipsAfterCut_44 : decode cX1_clipsAfterCut 44 = .ok (.iconst 1, 1) := by decide +kernel
theorem dX1_clipsAfterCut_45 : decode cX1_clipsAfterCut 45 = .ok (.goto 4, 3) := by decide +kernel
theorem dX1_clipsAfterCut_48 : decode cX1_clipsAfterCut 48 = .ok (.iconst 0, 1) := by decide +kernel
theorem dX1_clipsAfterCut_49 : decode cX1_clipsAfterCut 49 = .ok (.iadd, 1) := by decide +kernel
theorem dX1_clipsAfterCut_50 : decode cX1_clipsAfterCut 50 = .ok (.istore_n 3, 1) := by decide +kernel
theorem dX1_clipsAfterCut_51 : decode cX1_clipsAfterCut 51 = .ok (.iinc 4 1, 3) := by decide +kernel
theorem dX1_clipsAfterCut_54 : decode cX1_clipsAfterCut 54 = .ok (.goto (-49), 3) := by decide +kernel
theorem dX1_clipsAfterCut_57 : decode cX1_clipsAfterCut 57 = .ok (.iload_n 3, 1) := by decide +kernel
theorem dX1_clipsAfterCut_58 : decode cX1_clipsAfterCut 58 = .ok (.ireturn, 1) := by decide +kernel
theorem dX1_takeFrames_0 : decode cX1_takeFrames 0 = .ok (.iconst 0, 1) := by decide +kernel
theorem dX1_takeFrames_1 : decode cX1_takeFrames 1 = .ok (.istore_n 3, 1) := by decide +kernel
theorem dX1_takeFrames_2 : decode cX1_takeFrames 2 = .ok (.aload_n 0, 1) := by decide +kernel
theorem dX1_takeFrames_3 : decode cX1_takeFrames 3 = .ok (.getfield 15, 3) := by decide +kernel
theorem dX1_takeFrames_6 : decode cX1_takeFrames 6 = .ok (.iconst 1, 1) := by decide +kernel
theorem dX1_takeFrames_7 : decode cX1_takeFrames 7 = .ok (.isub, 1) := by decide +kernel
theorem dX1_takeFrames_8 : decode cX1_takeFrames 8 = .ok (.istore 4, 2) := by decide +kernel
theorem dX1_takeFrames_10 : decode cX1_takeFrames 10 = .ok (.iload 4, 2) := by decide +kernel
theorem dX1_takeFrames_12 : decode cX1_takeFrames 12 = .ok (.ifCond .lt 62, 3) := by decide +kernel
theorem dX1_takeFrames_15 : decode cX1_takeFrames 15 = .ok (.aload_n 0, 1) := by decide +kernel
theorem dX1_takeFrames_16 : decode cX1_takeFrames 16 = .ok (.iload 4, 2) := by decide +kernel
theorem dX1_takeFrames_18 : decode cX1_takeFrames 18 = .ok (.iconst 1, 1) := by decide +kernel
theorem dX1_takeFrames_19 : decode cX1_takeFrames 19 = .ok (.invokevirtual 19, 3) := by decide +kernel
theorem dX1_takeFrames_22 : decode cX1_takeFrames 22 = .ok (.istore 5, 2) := by decide +kernel
theorem dX1_takeFrames_24 : decode cX1_takeFrames 24 = .ok (.iload 5, 2) := by decide +kernel
theorem dX1_takeFrames_26 : decode cX1_takeFrames 26 = .ok (.iload_n 2, 1) := by decide +kernel
theorem dX1_takeFrames_27 : decode cX1_takeFrames 27 = .ok (.if_icmp .lt 19, 3) := by decide +kernel
theorem dX1_takeFrames_30 : decode cX1_takeFrames 30 = .ok (.aload_n 0, 1) := by decide +kernel
theorem dX1_takeFrames_31 : decode cX1_takeFrames 31 = .ok (.iload 4, 2) := by decide +kernel
theorem dX1_takeFrames_33 : decode cX1_takeFrames 33 = .ok (.iconst 1, 1) := by decide +kernel
theorem dX1_takeFrames_34 : decode cX1_takeFrames 34 = .ok (.iload 5, 2) := by decide +kernel
theorem dX1_takeFrames_36 : decode cX1_takeFrames 36 = .ok (.iload_n 2, 1) := by decide +kernel
theorem dX1_takeFrames_37 : decode cX1_takeFrames 37 = .ok (.iload_n 1, 1) := by decide +kernel
theorem dX1_takeFrames_38 : decode cX1_takeFrames 38 = .ok (.isub, 1) := by decide +kernel
theorem dX1_takeFrames_39 : decode cX1_takeFrames 39 = .ok (.isub, 1) := by decide +kernel
theorem dX1_takeFrames_40 : decode cX1_takeFrames 40 = .ok (.invokevirtual 42, 3) := by decide +kernel
theorem dX1_takeFrames_43 : decode cX1_takeFrames 43 = .ok (.goto 25, 3) := by decide +kernel
theorem dX1_takeFrames_46 : decode cX1_takeFrames 46 = .ok (.iload 5, 2) := by decide +kernel
theorem dX1_takeFrames_48 : decode cX1_takeFrames 48 = .ok (.iload_n 1, 1) := by decide +kernel
theorem dX1_takeFrames_49 : decode cX1_takeFrames 49 = .ok (.if_icmp .lt 19, 3) := by decide +kernel
theorem dX1_takeFrames_52 : decode cX1_takeFrames 52 = .ok (.iload_n 3, 1) := by decide +kernel
theorem dX1_takeFrames_53 : decode cX1_takeFrames 53 = .ok (.aload_n 0, 1) := by decide +kernel
theorem dX1_takeFrames_54 : decode cX1_takeFrames 54 = .ok (.iload 4, 2) := by decide +kernel
theorem dX1_takeFrames_56 : decode cX1_takeFrames 56 = .ok (.iconst 4, 1) := by decide +kernel
theorem dX1_takeFrames_57 : decode cX1_takeFrames 57 = .ok (.invokevirtual 19, 3) := by decide +kernel
theorem dX1_takeFrames_60 : decode cX1_takeFrames 60 = .ok (.iadd, 1) := by decide +kernel
theorem dX1_takeFrames_61 : decode cX1_takeFrames 61 = .ok (.istore_n 3, 1) := by decide +kernel
theorem dX1_takeFrames_62 : decode cX1_takeFrames 62 = .ok (.aload_n 0, 1) := by decide +kernel
theorem dX1_takeFrames_63 : decode cX1_takeFrames 63 = .ok (.iload 4, 2) := by decide +kernel
theorem dX1_takeFrames_65 : decode cX1_takeFrames 65 = .ok (.invokevirtual 57, 3) := by decide +kernel
theorem dX1_takeFrames_68 : decode cX1_takeFrames 68 = .ok (.iinc 4 (-1), 3) := by decide +kernel
theorem dX1_takeFrames_71 : decode cX1_takeFrames 71 = .ok (.goto (-61), 3) := by decide +kernel
theorem dX1_takeFrames_74 : decode cX1_takeFrames 74 = .ok (.iload_n 3, 1) := by decide +kernel
theorem dX1_takeFrames_75 : decode cX1_takeFrames 75 = .ok (.ireturn, 1) := by decide +kernel
theorem dX1_giveFrames_0 : decode cX1_giveFrames 0 = .ok (.iconst 0, 1) := by decide +kernel
theorem dX1_giveFrames_1 : decode cX1_giveFrames 1 = .ok (.istore_n 3, 1) := by decide +kernel
theorem dX1_giveFrames_2 : decode cX1_giveFrames 2 = .ok (.iload_n 3, 1) := by decide +kernel
theorem dX1_giveFrames_3 : decode cX1_giveFrames 3 = .ok (.aload_n 0, 1) := by decide +kernel
theorem dX1_giveFrames_4 : decode cX1_giveFrames 4 = .ok (.getfield 15, 3) := by decide +kernel
theorem dX1_giveFrames_7 : decode cX1_giveFrames 7 = .ok (.if_icmp .ge 33, 3) := by decide +kernel
theorem dX1_giveFrames_10 : decode cX1_giveFrames 10 = .ok (.aload_n 0, 1) := by decide +kernel
theorem dX1_giveFrames_11 : decode cX1_giveFrames 11 = .ok (.iload_n 3, 1) := by decide +kernel
theorem dX1_giveFrames_12 : decode cX1_giveFrames 12 = .ok (.iconst 1, 1) := by decide +kernel
theorem dX1_giveFrames_13 : decode cX1_giveFrames 13 = .ok (.invokevirtual 19, 3) := by decide +kernel
theorem dX1_giveFrames_16 : decode cX1_giveFrames 16 = .ok (.iload_n 1, 1) := by decide +kernel
theorem dX1_giveFrames_17 : decode cX1_giveFrames 17 = .ok (.if_icmp .lt 17, 3) := by decide +kernel
theorem dX1_giveFrames_20 : decode cX1_giveFrames 20 = .ok (.aload_n 0, 1) := by decide +kernel
theorem dX1_giveFrames_21 : decode cX1_giveFrames 21 = .ok (.iload_n 3, 1) := by decide +kernel
theorem dX1_giveFrames_22 : decode cX1_giveFrames 22 = .ok (.iconst 1, 1) := by decide +kernel
theorem dX1_giveFrames_23 : decode cX1_giveFrames 23 = .ok (.aload_n 0, 1) := by decide +kernel
theorem dX1_giveFrames_24 : decode cX1_giveFrames 24 = .ok (.iload_n 3, 1) := by decide +kernel
theorem dX1_giveFrames_25 : decode cX1_giveFrames 25 = .ok (.iconst 1, 1) := by decide +kernel
theorem dX1_giveFrames_26 : decode cX1_giveFrames 26 = .ok (.invokevirtual 19, 3) := by decide +kernel
theorem dX1_giveFrames_29 : decode cX1_giveFrames 29 = .ok (.iload_n 2, 1) := by decide +kernel
theorem dX1_giveFrames_30 : decode cX1_giveFrames 30 = .ok (.iadd, 1) := by decide +kernel
theorem dX1_giveFrames_31 : decode cX1_giveFrames 31 = .ok (.invokevirtual 42, 3) := by decide +kernel
theorem dX1_giveFrames_34 : decode cX1_giveFrames 34 = .ok (.iinc 3 1, 3) := by decide +kernel
theorem dX1_giveFrames_37 : decode cX1_giveFrames 37 = .ok (.goto (-35), 3) := by decide +kernel
theorem dX1_giveFrames_40 : decode cX1_giveFrames 40 = .ok (.return_, 1) := by decide +kernel
theorem dX2_init_0 : decode cX2_init 0 = .ok (.aload_n 0, 1) := by decide +kernel
theorem dX2_init_1 : decode cX2_init 1 = .ok (.invokespecial 3, 3) := by decide +kernel
theorem dX2_init_4 : decode cX2_init 4 = .ok (.aload_n 0, 1) := by decide +kernel
theorem dX2_init_5 : decode cX2_init 5 = .ok (.bipush 11, 2) := by decide +kernel
theorem dX2_init_7 : decode cX2_init 7 = .ok (.anewarray 9, 3) := by decide +kernel
theorem dX2_init_10 : decode cX2_init 10 = .ok (.putfield 11, 3) := by decide +kernel
theorem dX2_init_13 : decode cX2_init 13 = .ok (.iconst 0, 1) := by decide +kernel
theorem dX2_init_14 : decode cX2_init 14 = .ok (.istore_n 1, 1) := by decide +kernel
theorem dX2_init_15 : decode cX2_init 15 = .ok (.iload_n 1, 1) := by decide +kernel
theorem dX2_init_16 : decode cX2_init 16 = .ok (.bipush 10, 2) := by decide +kernel
theorem dX2_init_18 : decode cX2_init 18 = .ok (.if_icmp .gt 22, 3) := by decide +kernel
theorem dX2_init_21 : decode cX2_init 21 = .ok (.aload_n 0, 1) := by decide +kernel
theorem dX2_init_22 : decode cX2_init 22 = .ok (.getfield 11, 3) := by decide +kernel
theorem dX2_init_25 : decode cX2_init 25 = .ok (.iload_n 1, 1) := by decide +kernel
theorem dX2_init_26 : decode cX2_init 26 = .ok (.new 9, 3) := by decide +kernel
theorem dX2_init_29 : decode cX2_init 29 = .ok (.dup, 1) := by decide +kernel
theorem dX2_init_30 : decode cX2_init 30 = .ok (.invokespecial 17, 3) := by decide +kernel
theorem dX2_init_33 : decode cX2_init 33 = .ok (.aastore, 1) := by decide +kernel
theorem dX2_init_34 : decode cX2_init 34 = .ok (.iinc 1 1, 3) := by decide +kernel
theorem dX2_init_37 : decode cX2_init 37 = .ok (.goto (-22), 3) := by decide +kernel
theorem dX2_init_40 : decode cX2_init 40 = .ok (.return_, 1) := by decide +kernel
theorem dX2_behind_0 : decode cX2_behind 0 = .ok (.aload_n 0, 1) := by decide +kernel
theorem dX2_behind_1 : decode cX2_behind 1 = .ok (.getfield 11, 3) := by decide +kernel
theorem dX2_behind_4 : decode cX2_behind 4 = .ok (.aload_n 0, 1) := by decide +kernel
theorem dX2_behind_5 : decode cX2_behind 5 = .ok (.getfield 18, 3) := by decide +kernel
theorem dX2_behind_8 : decode cX2_behind 8 = .ok (.iload_n 1, 1) := by decide +kernel
theorem dX2_behind_9 : decode cX2_behind 9 = .ok (.iadd, 1) := by decide +kernel
theorem dX2_behind_10 : decode cX2_behind 10 = .ok (.bipush 11, 2) := by decide +kernel
theorem dX2_behind_12 : decode cX2_behind 12 = .ok (.irem, 1) := by decide +kernel
theorem dX2_behind_13 : decode cX2_behind 13 = .ok (.aaload, 1) := by decide +kernel
theorem dX2_behind_14 : decode cX2_behind 14 = .ok (.areturn, 1) := by decide +kernel
theorem dX2_note_0 : decode cX2_note 0 = .ok (.aload_n 0, 1) := by decide +kernel
theorem dX2_note_1 : decode cX2_note 1 = .ok (.iconst 0, 1) := by decide +kernel
theorem dX2_note_2 : decode cX2_note 2 = .ok (.putfield 22, 3) := by decide +kernel
theorem dX2_note_5 : decode cX2_note 5 = .ok (.aload_n 0, 1) := by decide +kernel
theorem dX2_note_6 : decode cX2_note 6 = .ok (.getfield 25, 3) := by decide +kernel
theorem dX2_note_9 : decode cX2_note 9 = .ok (.ifCond .eq 16, 3) := by decide +kernel
theorem dX2_note_12 : decode cX2_note 12 = .ok (.aload_n 0, 1) := by decide +kernel
theorem dX2_note_13 : decode cX2_note 13 = .ok (.dup, 1) := by decide +kernel
theorem dX2_note_14 : decode cX2_note 14 = .ok (.getfield 29, 3) := by decide +kernel
theorem dX2_note_17 : decode cX2_note 17 = .ok (.iconst 1, 1) := by decide +kernel
theorem dX2_note_18 : decode cX2_note 18 = .ok (.iadd, 1) := by decide +kernel
theorem dX2_note_19 : decode cX2_note 19 = .ok (.putfield 29, 3) := by decide +kernel
theorem dX2_note_22 : decode cX2_note 22 = .ok (.goto 8, 3) := by decide +kernel
theorem dX2_note_25 : decode cX2_note 25 = .ok (.aload_n 0, 1) := by decide +kernel
theorem dX2_note_26 : decode cX2_note 26 = .ok (.aload_n 1, 1) := by decide +kernel
theorem dX2_note_27 : decode cX2_note 27 = .ok (.invokevirtual 32, 3) := by decide +kernel
theorem dX2_note_30 : decode cX2_note 30 = .ok (.return_, 1) := by decide +kernel
theorem dX2_keep_0 : decode cX2_keep 0 = .ok (.aload_n 0, 1) := by decide +kernel
theorem dX2_keep_1 : decode cX2_keep 1 = .ok (.getfield 36, 3) := by decide +kernel
theorem dX2_keep_4 : decode cX2_keep 4 = .ok (.bipush 10, 2) := by decide +kernel
theorem dX2_keep_6 : decode cX2_keep 6 = .ok (.if_icmp .ne 19, 3) := by decide +kernel
theorem dX2_keep_9 : decode cX2_keep 9 = .ok (.aload_n 0, 1) := by decide +kernel
theorem dX2_keep_10 : decode cX2_keep 10 = .ok (.aload_n 0, 1) := by decide +kernel
theorem dX2_keep_11 : decode cX2_keep 11 = .ok (.getfield 18, 3) := by decide +kernel
theorem dX2_keep_14 : decode cX2_keep 14 = .ok (.iconst 1, 1) := by decide +kernel
theorem dX2_keep_15 : decode cX2_keep 15 = .ok (.iadd, 1) := by decide +kernel
theorem dX2_keep_16 : decode cX2_keep 16 = .ok (.bipush 11, 2) := by decide +kernel
theorem dX2_keep_18 : decode cX2_keep 18 = .ok (.irem, 1) := by decide +kernel
theorem dX2_keep_19 : decode cX2_keep 19 = .ok (.putfield 18, 3) := by decide +kernel
theorem dX2_keep_22 : decode cX2_keep 22 = .ok (.goto 13, 3) := by decide +kernel
theorem dX2_keep_25 : decode cX2_keep 25 = .ok (.aload_n 0, 1) := by decide +kernel
theorem dX2_keep_26 : decode cX2_keep 26 = .ok (.dup, 1) := by decide +kernel
theorem dX2_keep_27 : decode cX2_keep 27 = .ok (.getfield 36, 3) := by decide +kernel
theorem dX2_keep_30 : decode cX2_keep 30 = .ok (.iconst 1, 1) := by decide +kernel
theorem dX2_keep_31 : decode cX2_keep 31 = .ok (.iadd, 1) := by decide +kernel
theorem dX2_keep_32 : decode cX2_keep 32 = .ok (.putfield 36, 3) := by decide +kernel
theorem dX2_keep_35 : decode cX2_keep 35 = .ok (.aload_n 1, 1) := by decide +kernel
theorem dX2_keep_36 : decode cX2_keep 36 = .ok (.aload_n 0, 1) := by decide +kernel
theorem dX2_keep_37 : decode cX2_keep 37 = .ok (.aload_n 0, 1) := by decide +kernel
theorem dX2_keep_38 : decode cX2_keep 38 = .ok (.getfield 36, 3) := by decide +kernel
theorem dX2_keep_41 : decode cX2_keep 41 = .ok (.invokevirtual 39, 3) := by decide +kernel
theorem dX2_keep_44 : decode cX2_keep 44 = .ok (.invokestatic 43, 3) := by decide +kernel
theorem dX2_keep_47 : decode cX2_keep 47 = .ok (.return_, 1) := by decide +kernel
theorem dX2_goBack_0 : decode cX2_goBack 0 = .ok (.aload_n 0, 1) := by decide +kernel
theorem dX2_goBack_1 : decode cX2_goBack 1 = .ok (.dup, 1) := by decide +kernel
theorem dX2_goBack_2 : decode cX2_goBack 2 = .ok (.getfield 36, 3) := by decide +kernel
theorem dX2_goBack_5 : decode cX2_goBack 5 = .ok (.iconst 1, 1) := by decide +kernel
theorem dX2_goBack_6 : decode cX2_goBack 6 = .ok (.isub, 1) := by decide +kernel
theorem dX2_goBack_7 : decode cX2_goBack 7 = .ok (.putfield 36, 3) := by decide +kernel
theorem dX2_goBack_10 : decode cX2_goBack 10 = .ok (.aload_n 0, 1) := by decide +kernel
theorem dX2_goBack_11 : decode cX2_goBack 11 = .ok (.dup, 1) := by decide +kernel
theorem dX2_goBack_12 : decode cX2_goBack 12 = .ok (.getfield 22, 3) := by decide +kernel
theorem dX2_goBack_15 : decode cX2_goBack 15 = .ok (.iconst 1, 1) := by decide +kernel
theorem dX2_goBack_16 : decode cX2_goBack 16 = .ok (.iadd, 1) := by decide +kernel
theorem dX2_goBack_17 : decode cX2_goBack 17 = .ok (.putfield 22, 3) := by decide +kernel
theorem dX2_goBack_20 : decode cX2_goBack 20 = .ok (.aload_n 0, 1) := by decide +kernel
theorem dX2_goBack_21 : decode cX2_goBack 21 = .ok (.aload_n 0, 1) := by decide +kernel
theorem dX2_goBack_22 : decode cX2_goBack 22 = .ok (.getfield 36, 3) := by decide +kernel
theorem dX2_goBack_25 : decode cX2_goBack 25 = .ok (.invokevirtual 39, 3) := by decide +kernel
theorem dX2_goBack_28 : decode cX2_goBack 28 = .ok (.aload_n 1, 1) := by decide +kernel
theorem dX2_goBack_29 : decode cX2_goBack 29 = .ok (.invokestatic 43, 3) := by decide +kernel
theorem dX2_goBack_32 : decode cX2_goBack 32 = .ok (.return_, 1) := by decide +kernel
theorem dX2_goOn_0 : decode cX2_goOn 0 = .ok (.aload_n 0, 1) := by decide +kernel
theorem dX2_goOn_1 : decode cX2_goOn 1 = .ok (.dup, 1) := by decide +kernel
theorem dX2_goOn_2 : decode cX2_goOn 2 = .ok (.getfield 36, 3) := by decide +kernel
theorem dX2_goOn_5 : decode cX2_goOn 5 = .ok (.iconst 1, 1) := by decide +kernel
theorem dX2_goOn_6 : decode cX2_goOn 6 = .ok (.iadd, 1) := by decide +kernel
theorem dX2_goOn_7 : decode cX2_goOn 7 = .ok (.putfield 36, 3) := by decide +kernel
theorem dX2_goOn_10 : decode cX2_goOn 10 = .ok (.aload_n 0, 1) := by decide +kernel
theorem dX2_goOn_11 : decode cX2_goOn 11 = .ok (.dup, 1) := by decide +kernel
theorem dX2_goOn_12 : decode cX2_goOn 12 = .ok (.getfield 22, 3) := by decide +kernel
theorem dX2_goOn_15 : decode cX2_goOn 15 = .ok (.iconst 1, 1) := by decide +kernel
theorem dX2_goOn_16 : decode cX2_goOn 16 = .ok (.isub, 1) := by decide +kernel
theorem dX2_goOn_17 : decode cX2_goOn 17 = .ok (.putfield 22, 3) := by decide +kernel
theorem dX2_goOn_20 : decode cX2_goOn 20 = .ok (.aload_n 0, 1) := by decide +kernel
theorem dX2_goOn_21 : decode cX2_goOn 21 = .ok (.aload_n 0, 1) := by decide +kernel
theorem dX2_goOn_22 : decode cX2_goOn 22 = .ok (.getfield 36, 3) := by decide +kernel
theorem dX2_goOn_25 : decode cX2_goOn 25 = .ok (.invokevirtual 39, 3) := by decide +kernel
theorem dX2_goOn_28 : decode cX2_goOn 28 = .ok (.aload_n 1, 1) := by decide +kernel
theorem dX2_goOn_29 : decode cX2_goOn 29 = .ok (.invokestatic 43, 3) := by decide +kernel
theorem dX2_goOn_32 : decode cX2_goOn 32 = .ok (.return_, 1) := by decide +kernel
theorem dX2_startFrom_0 : decode cX2_startFrom 0 = .ok (.aload_n 0, 1) := by decide +kernel
theorem dX2_startFrom_1 : decode cX2_startFrom 1 = .ok (.iconst 0, 1) := by decide +kernel
theorem dX2_startFrom_2 : decode cX2_startFrom 2 = .ok (.putfield 36, 3) := by decide +kernel
theorem dX2_startFrom_5 : decode cX2_startFrom 5 = .ok (.aload_n 0, 1) := by decide +kernel
theorem dX2_startFrom_6 : decode cX2_startFrom 6 = .ok (.iconst 0, 1) := by decide +kernel
theorem dX2_startFrom_7 : decode cX2_startFrom 7 = .ok (.putfield 22, 3) := by decide +kernel
theorem dX2_startFrom_10 : decode cX2_startFrom 10 = .ok (.aload_n 1, 1) := by decide +kernel
theorem dX2_startFrom_11 : decode cX2_startFrom 11 = .ok (.aload_n 0, 1) := by decide +kernel
theorem dX2_startFrom_12 : decode cX2_startFrom 12 = .ok (.iconst 0, 1) := by decide +kernel
theorem dX2_startFrom_13 : decode cX2_startFrom 13 = .ok (.invokevirtual 39, 3) := by decide +kernel
theorem dX2_startFrom_16 : decode cX2_startFrom 16 = .ok (.invokestatic 43, 3) := by decide +kernel
theorem dX2_startFrom_19 : decode cX2_startFrom 19 = .ok (.return_, 1) := by decide +kernel
theorem dX3_init_0 : decode cX3_init 0 = .ok (.aload_n 0, 1) := by decide +kernel
theorem dX3_init_1 : decode cX3_init 1 = .ok (.invokespecial 3, 3) := by decide +kernel
theorem dX3_init_4 : decode cX3_init 4 = .ok (.aload_n 0, 1) := by decide +kernel
theorem dX3_init_5 : decode cX3_init 5 = .ok (.sipush 150, 3) := by decide +kernel
theorem dX3_init_8 : decode cX3_init 8 = .ok (.newarray .int, 2) := by decide +kernel
theorem dX3_init_10 : decode cX3_init 10 = .ok (.putfield 9, 3) := by decide +kernel
theorem dX3_init_13 : decode cX3_init 13 = .ok (.aload_n 0, 1) := by decide +kernel
theorem dX3_init_14 : decode cX3_init 14 = .ok (.sipush 150, 3) := by decide +kernel
theorem dX3_init_17 : decode cX3_init 17 = .ok (.newarray .int, 2) := by decide +kernel
theorem dX3_init_19 : decode cX3_init 19 = .ok (.putfield 15, 3) := by decide +kernel
theorem dX3_init_22 : decode cX3_init 22 = .ok (.aload_n 0, 1) := by decide +kernel
theorem dX3_init_23 : decode cX3_init 23 = .ok (.sipush 601, 3) := by decide +kernel
theorem dX3_init_26 : decode cX3_init 26 = .ok (.newarray .int, 2) := by decide +kernel
theorem dX3_init_28 : decode cX3_init 28 = .ok (.putfield 18, 3) := by decide +kernel
theorem dX3_init_31 : decode cX3_init 31 = .ok (.aload_n 0, 1) := by decide +kernel
theorem dX3_init_32 : decode cX3_init 32 = .ok (.aload_n 1, 1) := by decide +kernel
theorem dX3_init_33 : decode cX3_init 33 = .ok (.putfield 21, 3) := by decide +kernel
theorem dX3_init_36 : decode cX3_init 36 = .ok (.aload_n 0, 1) := by decide +kernel
theorem dX3_init_37 : decode cX3_init 37 = .ok (.aload_n 2, 1) := by decide +kernel
theorem dX3_init_38 : decode cX3_init 38 = .ok (.putfield 25, 3) := by decide +kernel
theorem dX3_init_41 : decode cX3_init 41 = .ok (.return_, 1) := by decide +kernel
theorem dX3_window_0 : decode cX3_window 0 = .ok (.iconst 4, 1) := by decide +kernel
theorem dX3_window_1 : decode cX3_window 1 = .ok (.aload_n 0, 1) := by decide +kernel
theorem dX3_window_2 : decode cX3_window 2 = .ok (.getfield 21, 3) := by decide +kernel
theorem dX3_window_5 : decode cX3_window 5 = .ok (.getfield 29, 3) := by decide +kernel
theorem dX3_window_8 : decode cX3_window 8 = .ok (.iconst 1, 1) := by decide +kernel
theorem dX3_window_9 : decode cX3_window 9 = .ok (.iaload, 1) := by decide +kernel
theorem dX3_window_10 : decode cX3_window 10 = .ok (.invokestatic 34, 3) := by decide +kernel
theorem dX3_window_13 : decode cX3_window 13 = .ok (.ireturn, 1) := by decide +kernel
theorem dX3_measure_0 : decode cX3_measure 0 = .ok (.aload_n 0, 1) := by decide +kernel
theorem dX3_measure_1 : decode cX3_measure 1 = .ok (.iload_n 1, 1) := by decide +kernel
theorem dX3_measure_2 : decode cX3_measure 2 = .ok (.invokevirtual 40, 3) := by decide +kernel
theorem dX3_measure_5 : decode cX3_measure 5 = .ok (.aload_n 0, 1) := by decide +kernel
theorem dX3_measure_6 : decode cX3_measure 6 = .ok (.getfield 21, 3) := by decide +kernel
theorem dX3_measure_9 : decode cX3_measure 9 = .ok (.getfield 29, 3) := by decide +kernel
theorem dX3_measure_12 : decode cX3_measure 12 = .ok (.iconst 2, 1) := by decide +kernel
theorem dX3_measure_13 : decode cX3_measure 13 = .ok (.iaload, 1) := by decide +kernel
theorem dX3_measure_14 : decode cX3_measure 14 = .ok (.aload_n 0, 1) := by decide +kernel
theorem dX3_measure_15 : decode cX3_measure 15 = .ok (.getfield 21, 3) := by decide +kernel
theorem dX3_measure_18 : decode cX3_measure 18 = .ok (.getfield 29, 3) := by decide +kernel
theorem dX3_measure_21 : decode cX3_measure 21 = .ok (.iconst 2, 1) := by decide +kernel
theorem dX3_measure_22 : decode cX3_measure 22 = .ok (.iaload, 1) := by decide +kernel
theorem dX3_measure_23 : decode cX3_measure 23 = .ok (.imul, 1) := by decide +kernel
theorem dX3_measure_24 : decode cX3_measure 24 = .ok (.istore_n 2, 1) := by decide +kernel
theorem dX3_measure_25 : decode cX3_measure 25 = .ok (.iconst 0, 1) := by decide +kernel
theorem dX3_measure_26 : decode cX3_measure 26 = .ok (.istore_n 3, 1) := by decide +kernel
theorem dX3_measure_27 : decode cX3_measure 27 = .ok (.aload_n 0, 1) := by decide +kernel
theorem dX3_measure_28 : decode cX3_measure 28 = .ok (.iconst 0, 1) := by decide +kernel
theorem dX3_measure_29 : decode cX3_measure 29 = .ok (.putfield 44, 3) := by decide +kernel
theorem dX3_measure_32 : decode cX3_measure 32 = .ok (.iconst 0, 1) := by decide +kernel
theorem dX3_measure_33 : decode cX3_measure 33 = .ok (.istore 4, 2) := by decide +kernel
theorem dX3_measure_35 : decode cX3_measure 35 = .ok (.iload 4, 2) := by decide +kernel
theorem dX3_measure_37 : decode cX3_measure 37 = .ok (.aload_n 0, 1) := by decide +kernel
theorem dX3_measure_38 : decode cX3_measure 38 = .ok (.getfield 48, 3) := by decide +kernel
theorem dX3_measure_41 : decode cX3_measure 41 = .ok (.if_icmp .ge 43, 3) := by decide +kernel
theorem dX3_measure_44 : decode cX3_measure 44 = .ok (.aload_n 0, 1) := by decide +kernel
theorem dX3_measure_45 : decode cX3_measure 45 = .ok (.getfield 9, 3) := by decide +kernel
theorem dX3_measure_48 : decode cX3_measure 48 = .ok (.iload 4, 2) := by decide +kernel
theorem dX3_measure_50 : decode cX3_measure 50 = .ok (.iaload, 1) := by decide +kernel
theorem dX3_measure_51 : decode cX3_measure 51 = .ok (.iload_n 2, 1) := by decide +kernel
theorem dX3_measure_52 : decode cX3_measure 52 = .ok (.if_icmp .ge 16, 3) := by decide +kernel
theorem dX3_measure_55 : decode cX3_measure 55 = .ok (.aload_n 0, 1) := by decide +kernel
theorem dX3_measure_56 : decode cX3_measure 56 = .ok (.dup, 1) := by decide +kernel
theorem dX3_measure_57 : decode cX3_measure 57 = .ok (.getfield 44, 3) := by decide +kernel
theorem dX3_measure_60 : decode cX3_measure 60 = .ok (.iconst 1, 1) := by decide +kernel
theorem dX3_measure_61 : decode cX3_measure 61 = .ok (.iadd, 1) := by decide +kernel
theorem dX3_measure_62 : decode cX3_measure 62 = .ok (.putfield 44, 3) := by decide +kernel
theorem dX3_measure_65 : decode cX3_measure 65 = .ok (.goto 13, 3) := by decide +kernel
theorem dX3_measure_68 : decode cX3_measure 68 = .ok (.iload_n 3, 1) := by decide +kernel
theorem dX3_measure_69 : decode cX3_measure 69 = .ok (.aload_n 0, 1) := by decide +kernel
theorem dX3_measure_70 : decode cX3_measure 70 = .ok (.getfield 9, 3) := by decide +kernel
theorem dX3_measure_73 : decode cX3_measure 73 = .ok (.iload 4, 2) := by decide +kernel
theorem dX3_measure_75 : decode cX3_measure 75 = .ok (.iaload, 1) := by decide +kernel
theorem dX3_measure_76 : decode cX3_measure 76 = .ok (.iadd, 1) := by decide +kernel
theorem dX3_measure_77 : decode cX3_measure 77 = .ok (.istore_n 3, 1) := by decide +kernel
theorem dX3_measure_78 : decode cX3_measure 78 = .ok (.iinc 4 1, 3) := by decide +kernel
theorem dX3_measure_81 : decode cX3_measure 81 = .ok (.goto (-46), 3) := by decide +kernel
theorem dX3_measure_84 : decode cX3_measure 84 = .ok (.aload_n 0, 1) := by decide +kernel
theorem dX3_measure_85 : decode cX3_measure 85 = .ok (.aload_n 0, 1) := by decide +kernel
theorem dX3_measure_86 : decode cX3_measure 86 = .ok (.getfield 48, 3) := by decide +kernel
theorem dX3_measure_89 : decode cX3_measure 89 = .ok (.aload_n 0, 1) := by decide +kernel
theorem dX3_measure_90 : decode cX3_measure 90 = .ok (.getfield 44, 3) := by decide +kernel
theorem dX3_measure_93 : decode cX3_measure 93 = .ok (.if_icmp .le 17, 3) := by decide +kernel
theorem dX3_measure_96 : decode cX3_measure 96 = .ok (.iload_n 3, 1) := by decide +kernel
theorem dX3_measure_97 : decode cX3_measure 97 = .ok (.aload_n 0, 1) := by decide +kernel
theorem dX3_measure_98 : decode cX3_measure 98 = .ok (.getfield 48, 3) := by decide +kernel
theorem dX3_measure_101 : decode cX3_measure 101 = .ok (.aload_n 0, 1) := by decide +kernel
theorem dX3_measure_102 : decode cX3_measure 102 = .ok (.getfield 44, 3) := by decide +kernel
theorem dX3_measure_105 : decode cX3_measure 105 = .ok (.isub, 1) := by decide +kernel
theorem dX3_measure_106 : decode cX3_measure 106 = .ok (.idiv, 1) := by decide +kernel
theorem dX3_measure_107 : decode cX3_measure 107 = .ok (.goto 4, 3) := by decide +kernel
theorem dX3_measure_110 : decode cX3_measure 110 = .ok (.iconst 0, 1) := by decide +kernel
theorem dX3_measure_111 : decode cX3_measure 111 = .ok (.putfield 51, 3) := by decide +kernel
theorem dX3_measure_114 : decode cX3_measure 114 = .ok (.aload_n 0, 1) := by decide +kernel
theorem dX3_measure_115 : decode cX3_measure 115 = .ok (.getfield 51, 3) := by decide +kernel
theorem dX3_measure_118 : decode cX3_measure 118 = .ok (.aload_n 0, 1) := by decide +kernel
theorem dX3_measure_119 : decode cX3_measure 119 = .ok (.getfield 21, 3) := by decide +kernel
theorem dX3_measure_122 : decode cX3_measure 122 = .ok (.getfield 29, 3) := by decide +kernel
theorem dX3_measure_125 : decode cX3_measure 125 = .ok (.iconst 3, 1) := by decide +kernel
theorem dX3_measure_126 : decode cX3_measure 126 = .ok (.iaload, 1) := by decide +kernel
theorem dX3_measure_127 : decode cX3_measure 127 = .ok (.imul, 1) := by decide +kernel
theorem dX3_measure_128 : decode cX3_measure 128 = .ok (.istore 4, 2) := by decide +kernel
theorem dX3_measure_130 : decode cX3_measure 130 = .ok (.iconst 0, 1) := by decide +kernel
theorem dX3_measure_131 : decode cX3_measure 131 = .ok (.istore_n 3, 1) := by decide +kernel
theorem dX3_measure_132 : decode cX3_measure 132 = .ok (.aload_n 0, 1) := by decide +kernel
theorem dX3_measure_133 : decode cX3_measure 133 = .ok (.iconst 0, 1) := by decide +kernel
theorem dX3_measure_134 : decode cX3_measure 134 = .ok (.putfield 54, 3) := by decide +kernel
theorem dX3_measure_137 : decode cX3_measure 137 = .ok (.iconst 0, 1) := by decide +kernel
theorem dX3_measure_138 : decode cX3_measure 138 = .ok (.istore 5, 2) := by decide +kernel
theorem dX3_measure_140 : decode cX3_measure 140 = .ok (.iload 5, 2) := by decide +kernel
theorem dX3_measure_142 : decode cX3_measure 142 = .ok (.aload_n 0, 1) := by decide +kernel
theorem dX3_measure_143 : decode cX3_measure 143 = .ok (.getfield 48, 3) := by decide +kernel
theorem dX3_measure_146 : decode cX3_measure 146 = .ok (.if_icmp .ge 69, 3) := by decide +kernel
theorem dX3_measure_149 : decode cX3_measure 149 = .ok (.aload_n 0, 1) := by decide +kernel
theorem dX3_measure_150 : decode cX3_measure 150 = .ok (.getfield 9, 3) := by decide +kernel
theorem dX3_measure_153 : decode cX3_measure 153 = .ok (.iload 5, 2) := by decide +kernel
theorem dX3_measure_155 : decode cX3_measure 155 = .ok (.iaload, 1) := by decide +kernel
theorem dX3_measure_156 : decode cX3_measure 156 = .ok (.iload_n 2, 1) := by decide +kernel
theorem dX3_measure_157 : decode cX3_measure 157 = .ok (.if_icmp .lt 31, 3) := by decide +kernel
theorem dX3_measure_160 : decode cX3_measure 160 = .ok (.bipush 100, 2) := by decide +kernel
theorem dX3_measure_162 : decode cX3_measure 162 = .ok (.aload_n 0, 1) := by decide +kernel
theorem dX3_measure_163 : decode cX3_measure 163 = .ok (.getfield 9, 3) := by decide +kernel
theorem dX3_measure_166 : decode cX3_measure 166 = .ok (.iload 5, 2) := by decide +kernel
theorem dX3_measure_168 : decode cX3_measure 168 = .ok (.iaload, 1) := by decide +kernel
theorem dX3_measure_169 : decode cX3_measure 169 = .ok (.imul, 1) := by decide +kernel
theorem dX3_measure_170 : decode cX3_measure 170 = .ok (.iload 4, 2) := by decide +kernel
theorem dX3_measure_172 : decode cX3_measure 172 = .ok (.if_icmp .ge 16, 3) := by decide +kernel
theorem dX3_measure_175 : decode cX3_measure 175 = .ok (.aload_n 0, 1) := by decide +kernel
theorem dX3_measure_176 : decode cX3_measure 176 = .ok (.dup, 1) := by decide +kernel
theorem dX3_measure_177 : decode cX3_measure 177 = .ok (.getfield 54, 3) := by decide +kernel
theorem dX3_measure_180 : decode cX3_measure 180 = .ok (.iconst 1, 1) := by decide +kernel
theorem dX3_measure_181 : decode cX3_measure 181 = .ok (.iadd, 1) := by decide +kernel
theorem dX3_measure_182 : decode cX3_measure 182 = .ok (.putfield 54, 3) := by decide +kernel
theorem dX3_measure_185 : decode cX3_measure 185 = .ok (.goto 24, 3) := by decide +kernel
theorem dX3_measure_188 : decode cX3_measure 188 = .ok (.aload_n 0, 1) := by decide +kernel
theorem dX3_measure_189 : decode cX3_measure 189 = .ok (.getfield 9, 3) := by decide +kernel
theorem dX3_measure_192 : decode cX3_measure 192 = .ok (.iload 5, 2) := by decide +kernel
theorem dX3_measure_194 : decode cX3_measure 194 = .ok (.iaload, 1) := by decide +kernel
theorem dX3_measure_195 : decode cX3_measure 195 = .ok (.iload_n 2, 1) := by decide +kernel
theorem dX3_measure_196 : decode cX3_measure 196 = .ok (.if_icmp .lt 13, 3) := by decide +kernel
theorem dX3_measure_199 : decode cX3_measure 199 = .ok (.iload_n 3, 1) := by decide +kernel
theorem dX3_measure_200 : decode cX3_measure 200 = .ok (.aload_n 0, 1) := by decide +kernel
theorem dX3_measure_201 : decode cX3_measure 201 = .ok (.getfield 9, 3) := by decide +kernel
theorem dX3_measure_204 : decode cX3_measure 204 = .ok (.iload 5, 2) := by decide +kernel
theorem dX3_measure_206 : decode cX3_measure 206 = .ok (.iaload, 1) := by decide +kernel
theorem dX3_measure_207 : decode cX3_measure 207 = .ok (.iadd, 1) := by decide +kernel
theorem dX3_measure_208 : decode cX3_measure 208 = .ok (.istore_n 3, 1) := by decide +kernel
theorem dX3_measure_209 : decode cX3_measure 209 = .ok (.iinc 5 1, 3) := by decide +kernel
theorem dX3_measure_212 : decode cX3_measure 212 = .ok (.goto (-72), 3) := by decide +kernel
theorem dX3_measure_215 : decode cX3_measure 215 = .ok (.aload_n 0, 1) := by decide +kernel
theorem dX3_measure_216 : decode cX3_measure 216 = .ok (.getfield 48, 3) := by decide +kernel
theorem dX3_measure_219 : decode cX3_measure 219 = .ok (.aload_n 0, 1) := by decide +kernel
theorem dX3_measure_220 : decode cX3_measure 220 = .ok (.getfield 44, 3) := by decide +kernel
theorem dX3_measure_223 : decode cX3_measure 223 = .ok (.isub, 1) := by decide +kernel
theorem dX3_measure_224 : decode cX3_measure 224 = .ok (.aload_n 0, 1) := by decide +kernel
theorem dX3_measure_225 : decode cX3_measure 225 = .ok (.getfield 54, 3) := by decide +kernel
theorem dX3_measure_228 : decode cX3_measure 228 = .ok (.isub, 1) := by decide +kernel
theorem dX3_measure_229 : decode cX3_measure 229 = .ok (.istore 5, 2) := by decide +kernel
theorem dX3_measure_231 : decode cX3_measure 231 = .ok (.aload_n 0, 1) := by decide +kernel
theorem dX3_measure_232 : decode cX3_measure 232 = .ok (.iload 5, 2) := by decide +kernel
theorem dX3_measure_234 : decode cX3_measure 234 = .ok (.ifCond .le 10, 3) := by decide +kernel
theorem dX3_measure_237 : decode cX3_measure 237 = .ok (.iload_n 3, 1) := by decide +kernel
theorem dX3_measure_238 : decode cX3_measure 238 = .ok (.iload 5, 2) := by decide +kernel
theorem dX3_measure_240 : decode cX3_measure 240 = .ok (.idiv, 1) := by decide +kernel
theorem dX3_measure_241 : decode cX3_measure 241 = .ok (.goto 4, 3) := by decide +kernel
theorem dX3_measure_244 : decode cX3_measure 244 = .ok (.iconst 0, 1) := by decide +kernel
theorem dX3_measure_245 : decode cX3_measure 245 = .ok (.putfield 57, 3) := by decide +kernel
theorem dX3_measure_248 : decode cX3_measure 248 = .ok (.return_, 1) := by decide +kernel
theorem dX3_fillLevels_0 : decode cX3_fillLevels 0 = .ok (.aload_n 0, 1) := by decide +kernel
theorem dX3_fillLevels_1 : decode cX3_fillLevels 1 = .ok (.invokevirtual 60, 3) := by decide +kernel
theorem dX3_fillLevels_4 : decode cX3_fillLevels 4 = .ok (.istore_n 2, 1) := by decide +kernel
theorem dX3_fillLevels_5 : decode cX3_fillLevels 5 = .ok (.aload_n 0, 1) := by decide +kernel
theorem dX3_fillLevels_6 : decode cX3_fillLevels 6 = .ok (.aload_n 0, 1) := by decide +kernel
theorem dX3_fillLevels_7 : decode cX3_fillLevels 7 = .ok (.getfield 21, 3) := by decide +kernel
theorem dX3_fillLevels_10 : decode cX3_fillLevels 10 = .ok (.getfield 64, 3) := by decide +kernel
theorem dX3_fillLevels_13 : decode cX3_fillLevels 13 = .ok (.invokevirtual 68, 3) := by decide +kernel
theorem dX3_fillLevels_16 : decode cX3_fillLevels 16 = .ok (.iload_n 2, 1) := by decide +kernel
theorem dX3_fillLevels_17 : decode cX3_fillLevels 17 = .ok (.iadd, 1) := by decide +kernel
theorem dX3_fillLevels_18 : decode cX3_fillLevels 18 = .ok (.iconst 1, 1) := by decide +kernel
theorem dX3_fillLevels_19 : decode cX3_fillLevels 19 = .ok (.isub, 1) := by decide +kernel
theorem dX3_fillLevels_20 : decode cX3_fillLevels 20 = .ok (.iload_n 2, 1) := by decide +kernel
theorem dX3_fillLevels_21 : decode cX3_fillLevels 21 = .ok (.idiv, 1) := by decide +kernel
theorem dX3_fillLevels_22 : decode cX3_fillLevels 22 = .ok (.putfield 48, 3) := by decide +kernel
theorem dX3_fillLevels_25 : decode cX3_fillLevels 25 = .ok (.iconst 0, 1) := by decide +kernel
theorem dX3_fillLevels_26 : decode cX3_fillLevels 26 = .ok (.istore_n 3, 1) := by decide +kernel
theorem dX3_fillLevels_27 : decode cX3_fillLevels 27 = .ok (.iload_n 3, 1) := by decide +kernel
theorem dX3_fillLevels_28 : decode cX3_fillLevels 28 = .ok (.aload_n 0, 1) := by decide +kernel
theorem dX3_fillLevels_29 : decode cX3_fillLevels 29 = .ok (.getfield 48, 3) := by decide +kernel
theorem dX3_fillLevels_32 : decode cX3_fillLevels 32 = .ok (.if_icmp .ge 86, 3) := by decide +kernel
theorem dX3_fillLevels_35 : decode cX3_fillLevels 35 = .ok (.sipush 600, 3) := by decide +kernel
theorem dX3_fillLevels_38 : decode cX3_fillLevels 38 = .ok (.iload_n 3, 1) := by decide +kernel
theorem dX3_fillLevels_39 : decode cX3_fillLevels 39 = .ok (.iconst 1, 1) := by decide +kernel
theorem dX3_fillLevels_40 : decode cX3_fillLevels 40 = .ok (.iadd, 1) := by decide +kernel
theorem dX3_fillLevels_41 : decode cX3_fillLevels 41 = .ok (.iload_n 2, 1) := by decide +kernel
theorem dX3_fillLevels_42 : decode cX3_fillLevels 42 = .ok (.imul, 1) := by decide +kernel
theorem dX3_fillLevels_43 : decode cX3_fillLevels 43 = .ok (.invokestatic 73, 3) := by decide +kernel
theorem dX3_fillLevels_46 : decode cX3_fillLevels 46 = .ok (.istore 4, 2) := by decide +kernel
theorem dX3_fillLevels_48 : decode cX3_fillLevels 48 = .ok (.iconst 0, 1) := by decide +kernel
theorem dX3_fillLevels_49 : decode cX3_fillLevels 49 = .ok (.istore 5, 2) := by decide +kernel
theorem dX3_fillLevels_51 : decode cX3_fillLevels 51 = .ok (.iload_n 3, 1) := by decide +kernel
theorem dX3_fillLevels_52 : decode cX3_fillLevels 52 = .ok (.iload_n 2, 1) := by decide +kernel
theorem dX3_fillLevels_53 : decode cX3_fillLevels 53 = .ok (.imul, 1) := by decide +kernel
theorem dX3_fillLevels_54 : decode cX3_fillLevels 54 = .ok (.istore 6, 2) := by decide +kernel
theorem dX3_fillLevels_56 : decode cX3_fillLevels 56 = .ok (.iload 6, 2) := by decide +kernel
theorem dX3_fillLevels_58 : decode cX3_fillLevels 58 = .ok (.iload 4, 2) := by decide +kernel
theorem dX3_fillLevels_60 : decode cX3_fillLevels 60 = .ok (.if_icmp .ge 42, 3) := by decide +kernel
theorem dX3_fillLevels_63 : decode cX3_fillLevels 63 = .ok (.sipush 999, 3) := by decide +kernel
theorem dX3_fillLevels_66 : decode cX3_fillLevels 66 = .ok (.aload_n 0, 1) := by decide +kernel
theorem dX3_fillLevels_67 : decode cX3_fillLevels 67 = .ok (.getfield 25, 3) := by decide +kernel
theorem dX3_fillLevels_70 : decode cX3_fillLevels 70 = .ok (.getfield 76, 3) := by decide +kernel
theorem dX3_fillLevels_73 : decode cX3_fillLevels 73 = .ok (.iload 6, 2) := by decide +kernel
theorem dX3_fillLevels_75 : decode cX3_fillLevels 75 = .ok (.iaload, 1) := by decide +kernel
theorem dX3_fillLevels_76 : decode cX3_fillLevels 76 = .ok (.iload_n 1, 1) := by decide +kernel
theorem dX3_fillLevels_77 : decode cX3_fillLevels 77 = .ok (.imul, 1) := by decide +kernel
theorem dX3_fillLevels_78 : decode cX3_fillLevels 78 = .ok (.bipush 100, 2) := by decide +kernel
theorem dX3_fillLevels_80 : decode cX3_fillLevels 80 = .ok (.idiv, 1) := by decide +kernel
theorem dX3_fillLevels_81 : decode cX3_fillLevels 81 = .ok (.invokestatic 73, 3) := by decide +kernel
theorem dX3_fillLevels_84 : decode cX3_fillLevels 84 = .ok (.istore 7, 2) := by decide +kernel
theorem dX3_fillLevels_86 : decode cX3_fillLevels 86 = .ok (.iload 5, 2) := by decide +kernel
theorem dX3_fillLevels_88 : decode cX3_fillLevels 88 = .ok (.iload 7, 2) := by decide +kernel
theorem dX3_fillLevels_90 : decode cX3_fillLevels 90 = .ok (.iload 7, 2) := by decide +kernel
theorem dX3_fillLevels_92 : decode cX3_fillLevels 92 = .ok (.imul, 1) := by decide +kernel
theorem dX3_fillLevels_93 : decode cX3_fillLevels 93 = .ok (.iadd, 1) := by decide +kernel
theorem dX3_fillLevels_94 : decode cX3_fillLevels 94 = .ok (.istore 5, 2) := by decide +kernel
theorem dX3_fillLevels_96 : decode cX3_fillLevels 96 = .ok (.iinc 6 1, 3) := by decide +kernel
theorem dX3_fillLevels_99 : decode cX3_fillLevels 99 = .ok (.goto (-43), 3) := by decide +kernel
theorem dX3_fillLevels_102 : decode cX3_fillLevels 102 = .ok (.aload_n 0, 1) := by decide +kernel
theorem dX3_fillLevels_103 : decode cX3_fillLevels 103 = .ok (.getfield 9, 3) := by decide +kernel
theorem dX3_fillLevels_106 : decode cX3_fillLevels 106 = .ok (.iload_n 3, 1) := by decide +kernel
theorem dX3_fillLevels_107 : decode cX3_fillLevels 107 = .ok (.iload 5, 2) := by decide +kernel
theorem dX3_fillLevels_109 : decode cX3_fillLevels 109 = .ok (.iload_n 2, 1) := by decide +kernel
theorem dX3_fillLevels_110 : decode cX3_fillLevels 110 = .ok (.idiv, 1) := by decide +kernel
theorem dX3_fillLevels_111 : decode cX3_fillLevels 111 = .ok (.iastore, 1) := by decide +kernel
theorem dX3_fillLevels_112 : decode cX3_fillLevels 112 = .ok (.iinc 3 1, 3) := by decide +kernel
theorem dX3_fillLevels_115 : decode cX3_fillLevels 115 = .ok (.goto (-88), 3) := by decide +kernel
theorem dX3_fillLevels_118 : decode cX3_fillLevels 118 = .ok (.return_, 1) := by decide +kernel
theorem dX3_secondWay_0 : decode cX3_secondWay 0 = .ok (.iconst 0, 1) := by decide +kernel
theorem dX3_secondWay_1 : decode cX3_secondWay 1 = .ok (.istore_n 1, 1) := by decide +kernel
theorem dX3_secondWay_2 : decode cX3_secondWay 2 = .ok (.iload_n 1, 1) := by decide +kernel
theorem dX3_secondWay_3 : decode cX3_secondWay 3 = .ok (.sipush 600, 3) := by decide +kernel
theorem dX3_secondWay_6 : decode cX3_secondWay 6 = .ok (.if_icmp .ge 36, 3) := by decide +kernel
theorem dX3_secondWay_9 : decode cX3_secondWay 9 = .ok (.aload_n 0, 1) := by decide +kernel
theorem dX3_secondWay_10 : decode cX3_secondWay 10 = .ok (.getfield 25, 3) := by decide +kernel
theorem dX3_secondWay_13 : decode cX3_secondWay 13 = .ok (.iload_n 1, 1) := by decide +kernel
theorem dX3_secondWay_14 : decode cX3_secondWay 14 = .ok (.invokevirtual 81, 3) := by decide +kernel
theorem dX3_secondWay_17 : decode cX3_secondWay 17 = .ok (.istore_n 2, 1) := by decide +kernel
theorem dX3_secondWay_18 : decode cX3_secondWay 18 = .ok (.aload_n 0, 1) := by decide +kernel
theorem dX3_secondWay_19 : decode cX3_secondWay 19 = .ok (.getfield 18, 3) := by decide +kernel
theorem dX3_secondWay_22 : decode cX3_secondWay 22 = .ok (.iload_n 1, 1) := by decide +kernel
theorem dX3_secondWay_23 : decode cX3_secondWay 23 = .ok (.iconst 1, 1) := by decide +kernel
theorem dX3_secondWay_24 : decode cX3_secondWay 24 = .ok (.iadd, 1) := by decide +kernel
theorem dX3_secondWay_25 : decode cX3_secondWay 25 = .ok (.aload_n 0, 1) := by decide +kernel
theorem dX3_secondWay_26 : decode cX3_secondWay 26 = .ok (.getfield 18, 3) := by decide +kernel
theorem dX3_secondWay_29 : decode cX3_secondWay 29 = .ok (.iload_n 1, 1) := by decide +kernel
theorem dX3_secondWay_30 : decode cX3_secondWay 30 = .ok (.iaload, 1) := by decide +kernel
theorem dX3_secondWay_31 : decode cX3_secondWay 31 = .ok (.iload_n 2, 1) := by decide +kernel
theorem dX3_secondWay_32 : decode cX3_secondWay 32 = .ok (.iload_n 2, 1) := by decide +kernel
theorem dX3_secondWay_33 : decode cX3_secondWay 33 = .ok (.imul, 1) := by decide +kernel
theorem dX3_secondWay_34 : decode cX3_secondWay 34 = .ok (.iadd, 1) := by decide +kernel
theorem dX3_secondWay_35 : decode cX3_secondWay 35 = .ok (.iastore, 1) := by decide +kernel
theorem dX3_secondWay_36 : decode cX3_secondWay 36 = .ok (.iinc 1 1, 3) := by decide +kernel
theorem dX3_secondWay_39 : decode cX3_secondWay 39 = .ok (.goto (-37), 3) := by decide +kernel
theorem dX3_secondWay_42 : decode cX3_secondWay 42 = .ok (.aload_n 0, 1) := by decide +kernel
theorem dX3_secondWay_43 : decode cX3_secondWay 43 = .ok (.invokevirtual 85, 3) := by decide +kernel
theorem dX3_secondWay_46 : decode cX3_secondWay 46 = .ok (.istore_n 1, 1) := by decide +kernel
theorem dX3_secondWay_47 : decode cX3_secondWay 47 = .ok (.aload_n 0, 1) := by decide +kernel
theorem dX3_secondWay_48 : decode cX3_secondWay 48 = .ok (.getfield 21, 3) := by decide +kernel
theorem dX3_secondWay_51 : decode cX3_secondWay 51 = .ok (.getfield 29, 3) := by decide +kernel
theorem dX3_secondWay_54 : decode cX3_secondWay 54 = .ok (.iconst 2, 1) := by decide +kernel
theorem dX3_secondWay_55 : decode cX3_secondWay 55 = .ok (.iaload, 1) := by decide +kernel
theorem dX3_secondWay_56 : decode cX3_secondWay 56 = .ok (.aload_n 0, 1) := by decide +kernel
theorem dX3_secondWay_57 : decode cX3_secondWay 57 = .ok (.getfield 21, 3) := by decide +kernel
theorem dX3_secondWay_60 : decode cX3_secondWay 60 = .ok (.getfield 29, 3) := by decide +kernel
theorem dX3_secondWay_63 : decode cX3_secondWay 63 = .ok (.iconst 2, 1) := by decide +kernel
theorem dX3_secondWay_64 : decode cX3_secondWay 64 = .ok (.iaload, 1) := by decide +kernel
theorem dX3_secondWay_65 : decode cX3_secondWay 65 = .ok (.imul, 1) := by decide +kernel
theorem dX3_secondWay_66 : decode cX3_secondWay 66 = .ok (.istore_n 2, 1) := by decide +kernel
theorem dX3_secondWay_67 : decode cX3_secondWay 67 = .ok (.iconst 0, 1) := by decide +kernel
theorem dX3_secondWay_68 : decode cX3_secondWay 68 = .ok (.istore_n 3, 1) := by decide +kernel
theorem dX3_secondWay_69 : decode cX3_secondWay 69 = .ok (.iload_n 3, 1) := by decide +kernel
theorem dX3_secondWay_70 : decode cX3_secondWay 70 = .ok (.iload_n 1, 1) := by decide +kernel
theorem dX3_secondWay_71 : decode cX3_secondWay 71 = .ok (.if_icmp .ge 19, 3) := by decide +kernel
theorem dX3_secondWay_74 : decode cX3_secondWay 74 = .ok (.aload_n 0, 1) := by decide +kernel
theorem dX3_secondWay_75 : decode cX3_secondWay 75 = .ok (.getfield 9, 3) := by decide +kernel
theorem dX3_secondWay_78 : decode cX3_secondWay 78 = .ok (.iload_n 3, 1) := by decide +kernel
theorem dX3_secondWay_79 : decode cX3_secondWay 79 = .ok (.iaload, 1) := by decide +kernel
theorem dX3_secondWay_80 : decode cX3_secondWay 80 = .ok (.iload_n 2, 1) := by decide +kernel
theorem dX3_secondWay_81 : decode cX3_secondWay 81 = .ok (.if_icmp .ge 9, 3) := by decide +kernel
theorem dX3_secondWay_84 : decode cX3_secondWay 84 = .ok (.iinc 3 1, 3) := by decide +kernel
theorem dX3_secondWay_87 : decode cX3_secondWay 87 = .ok (.goto (-18), 3) := by decide +kernel
theorem dX3_secondWay_90 : decode cX3_secondWay 90 = .ok (.aload_n 0, 1) := by decide +kernel
theorem dX3_secondWay_91 : decode cX3_secondWay 91 = .ok (.iload_n 3, 1) := by decide +kernel
theorem dX3_secondWay_92 : decode cX3_secondWay 92 = .ok (.iload_n 1, 1) := by decide +kernel
theorem dX3_secondWay_93 : decode cX3_secondWay 93 = .ok (.invokevirtual 88, 3) := by decide +kernel
theorem dX3_secondWay_96 : decode cX3_secondWay 96 = .ok (.aload_n 0, 1) := by decide +kernel
theorem dX3_secondWay_97 : decode cX3_secondWay 97 = .ok (.getfield 21, 3) := by decide +kernel
theorem dX3_secondWay_100 : decode cX3_secondWay 100 = .ok (.getfield 29, 3) := by decide +kernel
theorem dX3_secondWay_103 : decode cX3_secondWay 103 = .ok (.iconst 3, 1) := by decide +kernel
theorem dX3_secondWay_104 : decode cX3_secondWay 104 = .ok (.iaload, 1) := by decide +kernel
theorem dX3_secondWay_105 : decode cX3_secondWay 105 = .ok (.imul, 1) := by decide +kernel
theorem dX3_secondWay_106 : decode cX3_secondWay 106 = .ok (.istore 4, 2) := by decide +kernel
theorem dX3_secondWay_108 : decode cX3_secondWay 108 = .ok (.iload_n 3, 1) := by decide +kernel
theorem dX3_secondWay_109 : decode cX3_secondWay 109 = .ok (.iload_n 1, 1) := by decide +kernel
theorem dX3_secondWay_110 : decode cX3_secondWay 110 = .ok (.if_icmp .ge 23, 3) := by decide +kernel
theorem dX3_secondWay_113 : decode cX3_secondWay 113 = .ok (.bipush 100, 2) := by decide +kernel
theorem dX3_secondWay_115 : decode cX3_secondWay 115 = .ok (.aload_n 0, 1) := by decide +kernel
theorem dX3_secondWay_116 : decode cX3_secondWay 116 = .ok (.getfield 9, 3) := by decide +kernel
theorem dX3_secondWay_119 : decode cX3_secondWay 119 = .ok (.iload_n 3, 1) := by decide +kernel
theorem dX3_secondWay_120 : decode cX3_secondWay 120 = .ok (.iaload, 1) := by decide +kernel
theorem dX3_secondWay_121 : decode cX3_secondWay 121 = .ok (.imul, 1) := by decide +kernel
theorem dX3_secondWay_122 : decode cX3_secondWay 122 = .ok (.iload 4, 2) := by decide +kernel
theorem dX3_secondWay_124 : decode cX3_secondWay 124 = .ok (.if_icmp .ge 9, 3) := by decide +kernel
theorem dX3_secondWay_127 : decode cX3_secondWay 127 = .ok (.iinc 3 1, 3) := by decide +kernel
theorem dX3_secondWay_130 : decode cX3_secondWay 130 = .ok (.goto (-22), 3) := by decide +kernel
theorem dX3_secondWay_133 : decode cX3_secondWay 133 = .ok (.aload_n 0, 1) := by decide +kernel
theorem dX3_secondWay_134 : decode cX3_secondWay 134 = .ok (.iload_n 3, 1) := by decide +kernel
theorem dX3_secondWay_135 : decode cX3_secondWay 135 = .ok (.iload_n 1, 1) := by decide +kernel
theorem dX3_secondWay_136 : decode cX3_secondWay 136 = .ok (.invokevirtual 88, 3) := by decide +kernel
theorem dX3_secondWay_139 : decode cX3_secondWay 139 = .ok (.ireturn, 1) := by decide +kernel
theorem dX3_sortLevels_0 : decode cX3_sortLevels 0 = .ok (.aload_n 0, 1) := by decide +kernel
theorem dX3_sortLevels_1 : decode cX3_sortLevels 1 = .ok (.invokevirtual 60, 3) := by decide +kernel
theorem dX3_sortLevels_4 : decode cX3_sortLevels 4 = .ok (.istore_n 1, 1) := by decide +kernel
theorem dX3_sortLevels_5 : decode cX3_sortLevels 5 = .ok (.aload_n 0, 1) := by decide +kernel
theorem dX3_sortLevels_6 : decode cX3_sortLevels 6 = .ok (.getfield 21, 3) := by decide +kernel
theorem dX3_sortLevels_9 : decode cX3_sortLevels 9 = .ok (.getfield 64, 3) := by decide +kernel
theorem dX3_sortLevels_12 : decode cX3_sortLevels 12 = .ok (.invokevirtual 68, 3) := by decide +kernel
theorem dX3_sortLevels_15 : decode cX3_sortLevels 15 = .ok (.istore_n 2, 1) := by decide +kernel
theorem dX3_sortLevels_16 : decode cX3_sortLevels 16 = .ok (.iconst 0, 1) := by decide +kernel
theorem dX3_sortLevels_17 : decode cX3_sortLevels 17 = .ok (.istore_n 3, 1) := by decide +kernel
theorem dX3_sortLevels_18 : decode cX3_sortLevels 18 = .ok (.iconst 0, 1) := by decide +kernel
theorem dX3_sortLevels_19 : decode cX3_sortLevels 19 = .ok (.istore 4, 2) := by decide +kernel
theorem dX3_sortLevels_21 : decode cX3_sortLevels 21 = .ok (.iload 4, 2) := by decide +kernel
theorem dX3_sortLevels_23 : decode cX3_sortLevels 23 = .ok (.iload_n 2, 1) := by decide +kernel
theorem dX3_sortLevels_24 : decode cX3_sortLevels 24 = .ok (.if_icmp .ge 164, 3) := by decide +kernel
theorem dX3_sortLevels_27 : decode cX3_sortLevels 27 = .ok (.sipush 600, 3) := by decide +kernel
theorem dX3_sortLevels_30 : decode cX3_sortLevels 30 = .ok (.iload 4, 2) := by decide +kernel
theorem dX3_sortLevels_32 : decode cX3_sortLevels 32 = .ok (.iload_n 1, 1) := by decide +kernel
theorem dX3_sortLevels_33 : decode cX3_sortLevels 33 = .ok (.iadd, 1) := by decide +kernel
theorem dX3_sortLevels_34 : decode cX3_sortLevels 34 = .ok (.invokestatic 73, 3) := by decide +kernel
theorem dX3_sortLevels_37 : decode cX3_sortLevels 37 = .ok (.istore 5, 2) := by decide +kernel
theorem dX3_sortLevels_39 : decode cX3_sortLevels 39 = .ok (.aload_n 0, 1) := by decide +kernel
theorem dX3_sortLevels_40 : decode cX3_sortLevels 40 = .ok (.getfield 18, 3) := by decide +kernel
theorem dX3_sortLevels_43 : decode cX3_sortLevels 43 = .ok (.iload 5, 2) := by decide +kernel
theorem dX3_sortLevels_45 : decode cX3_sortLevels 45 = .ok (.iaload, 1) := by decide +kernel
theorem dX3_sortLevels_46 : decode cX3_sortLevels 46 = .ok (.aload_n 0, 1) := by decide +kernel
theorem dX3_sortLevels_47 : decode cX3_sortLevels 47 = .ok (.getfield 18, 3) := by decide +kernel
theorem dX3_sortLevels_50 : decode cX3_sortLevels 50 = .ok (.iload 4, 2) := by decide +kernel
theorem dX3_sortLevels_52 : decode cX3_sortLevels 52 = .ok (.iaload, 1) := by decide +kernel
theorem dX3_sortLevels_53 : decode cX3_sortLevels 53 = .ok (.isub, 1) := by decide +kernel
theorem dX3_sortLevels_54 : decode cX3_sortLevels 54 = .ok (.iload_n 1, 1) := by decide +kernel
theorem dX3_sortLevels_55 : decode cX3_sortLevels 55 = .ok (.idiv, 1) := by decide +kernel
theorem dX3_sortLevels_56 : decode cX3_sortLevels 56 = .ok (.istore 6, 2) := by decide +kernel
theorem dX3_sortLevels_58 : decode cX3_sortLevels 58 = .ok (.iconst 0, 1) := by decide +kernel
theorem dX3_sortLevels_59 : decode cX3_sortLevels 59 = .ok (.istore 7, 2) := by decide +kernel
theorem dX3_sortLevels_61 : decode cX3_sortLevels 61 = .ok (.iload 7, 2) := by decide +kernel
theorem dX3_sortLevels_63 : decode cX3_sortLevels 63 = .ok (.iload_n 3, 1) := by decide +kernel
theorem dX3_sortLevels_64 : decode cX3_sortLevels 64 = .ok (.if_icmp .ge 21, 3) := by decide +kernel
theorem dX3_sortLevels_67 : decode cX3_sortLevels 67 = .ok (.aload_n 0, 1) := by decide +kernel
theorem dX3_sortLevels_68 : decode cX3_sortLevels 68 = .ok (.getfield 9, 3) := by decide +kernel
theorem dX3_sortLevels_71 : decode cX3_sortLevels 71 = .ok (.iload 7, 2) := by decide +kernel
theorem dX3_sortLevels_73 : decode cX3_sortLevels 73 = .ok (.iaload, 1) := by decide +kernel
theorem dX3_sortLevels_74 : decode cX3_sortLevels 74 = .ok (.iload 6, 2) := by decide +kernel
theorem dX3_sortLevels_76 : decode cX3_sortLevels 76 = .ok (.if_icmp .ge 9, 3) := by decide +kernel
theorem dX3_sortLevels_79 : decode cX3_sortLevels 79 = .ok (.iinc 7 1, 3) := by decide +kernel
theorem dX3_sortLevels_82 : decode cX3_sortLevels 82 = .ok (.goto (-21), 3) := by decide +kernel
theorem dX3_sortLevels_85 : decode cX3_sortLevels 85 = .ok (.iload 7, 2) := by decide +kernel
theorem dX3_sortLevels_87 : decode cX3_sortLevels 87 = .ok (.iload_n 3, 1) := by decide +kernel
theorem dX3_sortLevels_88 : decode cX3_sortLevels 88 = .ok (.if_icmp .ge 29, 3) := by decide +kernel
theorem dX3_sortLevels_91 : decode cX3_sortLevels 91 = .ok (.aload_n 0, 1) := by decide +kernel
theorem dX3_sortLevels_92 : decode cX3_sortLevels 92 = .ok (.getfield 9, 3) := by decide +kernel
theorem dX3_sortLevels_95 : decode cX3_sortLevels 95 = .ok (.iload 7, 2) := by decide +kernel
theorem dX3_sortLevels_97 : decode cX3_sortLevels 97 = .ok (.iaload, 1) := by decide +kernel
theorem dX3_sortLevels_98 : decode cX3_sortLevels 98 = .ok (.iload 6, 2) := by decide +kernel
theorem dX3_sortLevels_100 : decode cX3_sortLevels 100 = .ok (.if_icmp .ne 17, 3) := by decide +kernel
theorem dX3_sortLevels_103 : decode cX3_sortLevels 103 = .ok (.aload_n 0, 1) := by decide +kernel
theorem dX3_sortLevels_104 : decode cX3_sortLevels 104 = .ok (.getfield 15, 3) := by decide +kernel
theorem dX3_sortLevels_107 : decode cX3_sortLevels 107 = .ok (.iload 7, 2) := by decide +kernel
theorem dX3_sortLevels_109 : decode cX3_sortLevels 109 = .ok (.dup2, 1) := by decide +kernel
theorem dX3_sortLevels_110 : decode cX3_sortLevels 110 = .ok (.iaload, 1) := by decide +kernel
theorem dX3_sortLevels_111 : decode cX3_sortLevels 111 = .ok (.iconst 1, 1) := by decide +kernel
theorem dX3_sortLevels_112 : decode cX3_sortLevels 112 = .ok (.iadd, 1) := by decide +kernel
theorem dX3_sortLevels_113 : decode cX3_sortLevels 113 = .ok (.iastore, 1) := by decide +kernel
theorem dX3_sortLevels_114 : decode cX3_sortLevels 114 = .ok (.goto 65, 3) := by decide +kernel
theorem dX3_sortLevels_117 : decode cX3_sortLevels 117 = .ok (.aload_n 0, 1) := by decide +kernel
theorem dX3_sortLevels_118 : decode cX3_sortLevels 118 = .ok (.getfield 9, 3) := by decide +kernel
theorem dX3_sortLevels_121 : decode cX3_sortLevels 121 = .ok (.iload 7, 2) := by decide +kernel
theorem dX3_sortLevels_123 : decode cX3_sortLevels 123 = .ok (.aload_n 0, 1) := by decide +kernel
theorem dX3_sortLevels_124 : decode cX3_sortLevels 124 = .ok (.getfield 9, 3) := by decide +kernel
theorem dX3_sortLevels_127 : decode cX3_sortLevels 127 = .ok (.iload 7, 2) := by decide +kernel
theorem dX3_sortLevels_129 : decode cX3_sortLevels 129 = .ok (.iconst 1, 1) := by decide +kernel
theorem dX3_sortLevels_130 : decode cX3_sortLevels 130 = .ok (.iadd, 1) := by decide +kernel
theorem dX3_sortLevels_131 : decode cX3_sortLevels 131 = .ok (.iload_n 3, 1) := by decide +kernel
theorem dX3_sortLevels_132 : decode cX3_sortLevels 132 = .ok (.iload 7, 2) := by decide +kernel
theorem dX3_sortLevels_134 : decode cX3_sortLevels 134 = .ok (.isub, 1) := by decide +kernel
theorem dX3_sortLevels_135 : decode cX3_sortLevels 135 = .ok (.invokestatic 91, 3) := by decide +kernel
theorem dX3_sortLevels_138 : decode cX3_sortLevels 138 = .ok (.aload_n 0, 1) := by decide +kernel
theorem dX3_sortLevels_139 : decode cX3_sortLevels 139 = .ok (.getfield 15, 3) := by decide +kernel
theorem dX3_sortLevels_142 : decode cX3_sortLevels 142 = .ok (.iload 7, 2) := by decide +kernel
theorem dX3_sortLevels_144 : decode cX3_sortLevels 144 = .ok (.aload_n 0, 1) := by decide +kernel
theorem dX3_sortLevels_145 : decode cX3_sortLevels 145 = .ok (.getfield 15, 3) := by decide +kernel
theorem dX3_sortLevels_148 : decode cX3_sortLevels 148 = .ok (.iload 7, 2) := by decide +kernel
theorem dX3_sortLevels_150 : decode cX3_sortLevels 150 = .ok (.iconst 1, 1) := by decide +kernel
theorem dX3_sortLevels_151 : decode cX3_sortLevels 151 = .ok (.iadd, 1) := by decide +kernel
theorem dX3_sortLevels_152 : decode cX3_sortLevels 152 = .ok (.iload_n 3, 1) := by decide +kernel
theorem dX3_sortLevels_153 : decode cX3_sortLevels 153 = .ok (.iload 7, 2) := by decide +kernel
theorem dX3_sortLevels_155 : decode cX3_sortLevels 155 = .ok (.isub, 1) := by decide +kernel
theorem dX3_sortLevels_156 : decode cX3_sortLevels 156 = .ok (.invokestatic 91, 3) := by decide +kernel
theorem dX3_sortLevels_159 : decode cX3_sortLevels 159 = .ok (.aload_n 0, 1) := by decide +kernel
theorem dX3_sortLevels_160 : decode cX3_sortLevels 160 = .ok (.getfield 9, 3) := by decide +kernel
theorem dX3_sortLevels_163 : decode cX3_sortLevels 163 = .ok (.iload 7, 2) := by decide +kernel
theorem dX3_sortLevels_165 : decode cX3_sortLevels 165 = .ok (.iload 6, 2) := by decide +kernel
theorem dX3_sortLevels_167 : decode cX3_sortLevels 167 = .ok (.iastore, 1) := by decide +kernel
theorem dX3_sortLevels_168 : decode cX3_sortLevels 168 = .ok (.aload_n 0, 1) := by decide +kernel
theorem dX3_sortLevels_169 : decode cX3_sortLevels 169 = .ok (.getfield 15, 3) := by decide +kernel
theorem dX3_sortLevels_172 : decode cX3_sortLevels 172 = .ok (.iload 7, 2) := by decide +kernel
theorem dX3_sortLevels_174 : decode cX3_sortLevels 174 = .ok (.iconst 1, 1) := by decide +kernel
theorem dX3_sortLevels_175 : decode cX3_sortLevels 175 = .ok (.iastore, 1) := by decide +kernel
theorem dX3_sortLevels_176 : decode cX3_sortLevels 176 = .ok (.iinc 3 1, 3) := by decide +kernel
theorem dX3_sortLevels_179 : decode cX3_sortLevels 179 = .ok (.iload 4, 2) := by decide +kernel
theorem dX3_sortLevels_181 : decode cX3_sortLevels 181 = .ok (.iload_n 1, 1) := by decide +kernel
theorem dX3_sortLevels_182 : decode cX3_sortLevels 182 = .ok (.iadd, 1) := by decide +kernel
theorem dX3_sortLevels_183 : decode cX3_sortLevels 183 = .ok (.istore 4, 2) := by decide +kernel
theorem dX3_sortLevels_185 : decode cX3_sortLevels 185 = .ok (.goto (-164), 3) := by decide +kernel
theorem dX3_sortLevels_188 : decode cX3_sortLevels 188 = .ok (.iload_n 3, 1) := by decide +kernel
theorem dX3_sortLevels_189 : decode cX3_sortLevels 189 = .ok (.ireturn, 1) := by decide +kernel
theorem dX3_meanFrom_0 : decode cX3_meanFrom 0 = .ok (.iconst 0, 1) := by decide +kernel
theorem dX3_meanFrom_1 : decode cX3_meanFrom 1 = .ok (.istore_n 3, 1) := by decide +kernel
theorem dX3_meanFrom_2 : decode cX3_meanFrom 2 = .ok (.iconst 0, 1) := by decide +kernel
theorem dX3_meanFrom_3 : decode cX3_meanFrom 3 = .ok (.istore 4, 2) := by decide +kernel
theorem dX3_meanFrom_5 : decode cX3_meanFrom 5 = .ok (.iload_n 1, 1) := by decide +kernel
theorem dX3_meanFrom_6 : decode cX3_meanFrom 6 = .ok (.istore 5, 2) := by decide +kernel
theorem dX3_meanFrom_8 : decode cX3_meanFrom 8 = .ok (.iload 5, 2) := by decide +kernel
theorem dX3_meanFrom_10 : decode cX3_meanFrom 10 = .ok (.iload_n 2, 1) := by decide +kernel
theorem dX3_meanFrom_11 : decode cX3_meanFrom 11 = .ok (.if_icmp .ge 39, 3) := by decide +kernel
theorem dX3_meanFrom_14 : decode cX3_meanFrom 14 = .ok (.iload_n 3, 1) := by decide +kernel
theorem dX3_meanFrom_15 : decode cX3_meanFrom 15 = .ok (.aload_n 0, 1) := by decide +kernel
theorem dX3_meanFrom_16 : decode cX3_meanFrom 16 = .ok (.getfield 9, 3) := by decide +kernel
theorem dX3_meanFrom_19 : decode cX3_meanFrom 19 = .ok (.iload 5, 2) := by decide +kernel
theorem dX3_meanFrom_21 : decode cX3_meanFrom 21 = .ok (.iaload, 1) := by decide +kernel
theorem dX3_meanFrom_22 : decode cX3_meanFrom 22 = .ok (.aload_n 0, 1) := by decide +kernel
theorem dX3_meanFrom_23 : decode cX3_meanFrom 23 = .ok (.getfield 15, 3) := by decide +kernel
theorem dX3_meanFrom_26 : decode cX3_meanFrom 26 = .ok (.iload 5, 2) := by decide +kernel
theorem dX3_meanFrom_28 : decode cX3_meanFrom 28 = .ok (.iaload, 1) := by decide +kernel
theorem dX3_meanFrom_29 : decode cX3_meanFrom 29 = .ok (.imul, 1) := by decide +kernel
theorem dX3_meanFrom_30 : decode cX3_meanFrom 30 = .ok (.iadd, 1) := by decide +kernel
theorem dX3_meanFrom_31 : decode cX3_meanFrom 31 = .ok (.istore_n 3, 1) := by decide +kernel
theorem dX3_meanFrom_32 : decode cX3_meanFrom 32 = .ok (.iload 4, 2) := by decide +kernel
theorem dX3_meanFrom_34 : decode cX3_meanFrom 34 = .ok (.aload_n 0, 1) := by decide +kernel
theorem dX3_meanFrom_35 : decode cX3_meanFrom 35 = .ok (.getfield 15, 3) := by decide +kernel
theorem dX3_meanFrom_38 : decode cX3_meanFrom 38 = .ok (.iload 5, 2) := by decide +kernel
theorem dX3_meanFrom_40 : decode cX3_meanFrom 40 = .ok (.iaload, 1) := by decide +kernel
theorem dX3_meanFrom_41 : decode cX3_meanFrom 41 = .ok (.iadd, 1) := by decide +kernel
theorem dX3_meanFrom_42 : decode cX3_meanFrom 42 = .ok (.istore 4, 2) := by decide +kernel
theorem dX3_meanFrom_44 : decode cX3_meanFrom 44 = .ok (.iinc 5 1, 3) := by decide +kernel
theorem dX3_meanFrom_47 : decode cX3_meanFrom 47 = .ok (.goto (-39), 3) := by decide +kernel
theorem dX3_meanFrom_50 : decode cX3_meanFrom 50 = .ok (.iload 4, 2) := by decide +kernel
theorem dX3_meanFrom_52 : decode cX3_meanFrom 52 = .ok (.ifCond .le 10, 3) := by decide +kernel
theorem dX3_meanFrom_55 : decode cX3_meanFrom 55 = .ok (.iload_n 3, 1) := by decide +kernel
theorem dX3_meanFrom_56 : decode cX3_meanFrom 56 = .ok (.iload 4, 2) := by decide +kernel
theorem dX3_meanFrom_58 : decode cX3_meanFrom 58 = .ok (.idiv, 1) := by decide +kernel
theorem dX3_meanFrom_59 : decode cX3_meanFrom 59 = .ok (.goto 4, 3) := by decide +kernel
theorem dX3_meanFrom_62 : decode cX3_meanFrom 62 = .ok (.iconst 0, 1) := by decide +kernel
theorem dX3_meanFrom_63 : decode cX3_meanFrom 63 = .ok (.ireturn, 1) := by decide +kernel
theorem dX4_init_0 : decode cX4_init 0 = .ok (.aload_n 0, 1) := by decide +kernel
theorem dX4_init_1 : decode cX4_init 1 = .ok (.invokespecial 3, 3) := by decide +kernel
theorem dX4_init_4 : decode cX4_init 4 = .ok (.aload_n 0, 1) := by decide +kernel
theorem dX4_init_5 : decode cX4_init 5 = .ok (.iconst 5, 1) := by decide +kernel
theorem dX4_init_6 : decode cX4_init 6 = .ok (.newarray .int, 2) := by decide +kernel
theorem dX4_init_8 : decode cX4_init 8 = .ok (.putfield 9, 3) := by decide +kernel
theorem dX4_init_11 : decode cX4_init 11 = .ok (.aload_n 0, 1) := by decide +kernel
theorem dX4_init_12 : decode cX4_init 12 = .ok (.bipush 28, 2) := by decide +kernel
theorem dX4_init_14 : decode cX4_init 14 = .ok (.newarray .int, 2) := by decide +kernel
theorem dX4_init_16 : decode cX4_init 16 = .ok (.putfield 15, 3) := by decide +kernel
theorem dX4_init_19 : decode cX4_init 19 = .ok (.aload_n 0, 1) := by decide +kernel
theorem dX4_init_20 : decode cX4_init 20 = .ok (.bipush 24, 2) := by decide +kernel
theorem dX4_init_22 : decode cX4_init 22 = .ok (.newarray .int, 2) := by decide +kernel
theorem dX4_init_24 : decode cX4_init 24 = .ok (.putfield 18, 3) := by decide +kernel
theorem dX4_init_27 : decode cX4_init 27 = .ok (.aload_n 0, 1) := by decide +kernel
theorem dX4_init_28 : decode cX4_init 28 = .ok (.new 21, 3) := by decide +kernel
theorem dX4_init_31 : decode cX4_init 31 = .ok (.dup, 1) := by decide +kernel
theorem dX4_init_32 : decode cX4_init 32 = .ok (.invokespecial 23, 3) := by decide +kernel
theorem dX4_init_35 : decode cX4_init 35 = .ok (.putfield 24, 3) := by decide +kernel
theorem dX4_init_38 : decode cX4_init 38 = .ok (.aload_n 0, 1) := by decide +kernel
theorem dX4_init_39 : decode cX4_init 39 = .ok (.new 28, 3) := by decide +kernel
theorem dX4_init_42 : decode cX4_init 42 = .ok (.dup, 1) := by decide +kernel
theorem dX4_init_43 : decode cX4_init 43 = .ok (.invokespecial 30, 3) := by decide +kernel
theorem dX4_init_46 : decode cX4_init 46 = .ok (.putfield 31, 3) := by decide +kernel
theorem dX4_init_49 : decode cX4_init 49 = .ok (.getstatic 35, 3) := by decide +kernel
theorem dX4_init_52 : decode cX4_init 52 = .ok (.iconst 0, 1) := by decide +kernel
theorem dX4_init_53 : decode cX4_init 53 = .ok (.aload_n 0, 1) := by decide +kernel
theorem dX4_init_54 : decode cX4_init 54 = .ok (.getfield 9, 3) := by decide +kernel
theorem dX4_init_57 : decode cX4_init 57 = .ok (.iconst 0, 1) := by decide +kernel
theorem dX4_init_58 : decode cX4_init 58 = .ok (.iconst 5, 1) := by decide +kernel
theorem dX4_init_59 : decode cX4_init 59 = .ok (.invokestatic 38, 3) := by decide +kernel
theorem dX4_init_62 : decode cX4_init 62 = .ok (.iconst 0, 1) := by decide +kernel
theorem dX4_init_63 : decode cX4_init 63 = .ok (.istore_n 1, 1) := by decide +kernel
theorem dX4_init_64 : decode cX4_init 64 = .ok (.iload_n 1, 1) := by decide +kernel
theorem dX4_init_65 : decode cX4_init 65 = .ok (.iconst 4, 1) := by decide +kernel
theorem dX4_init_66 : decode cX4_init 66 = .ok (.if_icmp .ge 26, 3) := by decide +kernel
theorem dX4_init_69 : decode cX4_init 69 = .ok (.getstatic 44, 3) := by decide +kernel
theorem dX4_init_72 : decode cX4_init 72 = .ok (.iconst 0, 1) := by decide +kernel
theorem dX4_init_73 : decode cX4_init 73 = .ok (.aload_n 0, 1) := by decide +kernel
theorem dX4_init_74 : decode cX4_init 74 = .ok (.getfield 15, 3) := by decide +kernel
theorem dX4_init_77 : decode cX4_init 77 = .ok (.iload_n 1, 1) := by decide +kernel
theorem dX4_init_78 : decode cX4_init 78 = .ok (.bipush 7, 2) := by decide +kernel
theorem dX4_init_80 : decode cX4_init 80 = .ok (.imul, 1) := by decide +kernel
theorem dX4_init_81 : decode cX4_init 81 = .ok (.bipush 7, 2) := by decide +kernel
theorem dX4_init_83 : decode cX4_init 83 = .ok (.invokestatic 38, 3) := by decide +kernel
theorem dX4_init_86 : decode cX4_init 86 = .ok (.iinc 1 1, 3) := by decide +kernel
theorem dX4_init_89 : decode cX4_init 89 = .ok (.goto (-25), 3) := by decide +kernel
theorem dX4_init_92 : decode cX4_init 92 = .ok (.return_, 1) := by decide +kernel
theorem dX4_copy_0 : decode cX4_copy 0 = .ok (.aload_n 0, 1) := by decide +kernel
theorem dX4_copy_1 : decode cX4_copy 1 = .ok (.ifnull 7, 3) := by decide +kernel
theorem dX4_copy_4 : decode cX4_copy 4 = .ok (.aload_n 1, 1) := by decide +kernel
theorem dX4_copy_5 : decode cX4_copy 5 = .ok (.ifnonnull 4, 3) := by decide +kernel
theorem dX4_copy_8 : decode cX4_copy 8 = .ok (.return_, 1) := by decide +kernel
theorem dX4_copy_9 : decode cX4_copy 9 = .ok (.aload_n 0, 1) := by decide +kernel
theorem dX4_copy_10 : decode cX4_copy 10 = .ok (.getfield 9, 3) := by decide +kernel
theorem dX4_copy_13 : decode cX4_copy 13 = .ok (.iconst 0, 1) := by decide +kernel
theorem dX4_copy_14 : decode cX4_copy 14 = .ok (.aload_n 1, 1) := by decide +kernel
theorem dX4_copy_15 : decode cX4_copy 15 = .ok (.getfield 9, 3) := by decide +kernel
theorem dX4_copy_18 : decode cX4_copy 18 = .ok (.iconst 0, 1) := by decide +kernel
theorem dX4_copy_19 : decode cX4_copy 19 = .ok (.iconst 5, 1) := by decide +kernel
theorem dX4_copy_20 : decode cX4_copy 20 = .ok (.invokestatic 38, 3) := by decide +kernel
theorem dX4_copy_23 : decode cX4_copy 23 = .ok (.aload_n 0, 1) := by decide +kernel
theorem dX4_copy_24 : decode cX4_copy 24 = .ok (.getfield 15, 3) := by decide +kernel
theorem dX4_copy_27 : decode cX4_copy 27 = .ok (.iconst 0, 1) := by decide +kernel
theorem dX4_copy_28 : decode cX4_copy 28 = .ok (.aload_n 1, 1) := by decide +kernel
theorem dX4_copy_29 : decode cX4_copy 29 = .ok (.getfield 15, 3) := by decide +kernel
theorem dX4_copy_32 : decode cX4_copy 32 = .ok (.iconst 0, 1) := by decide +kernel
theorem dX4_copy_33 : decode cX4_copy 33 = .ok (.bipush 28, 2) := by decide +kernel
theorem dX4_copy_35 : decode cX4_copy 35 = .ok (.invokestatic 38, 3) := by decide +kernel
theorem dX4_copy_38 : decode cX4_copy 38 = .ok (.aload_n 0, 1) := by decide +kernel
theorem dX4_copy_39 : decode cX4_copy 39 = .ok (.getfield 18, 3) := by decide +kernel
theorem dX4_copy_42 : decode cX4_copy 42 = .ok (.iconst 0, 1) := by decide +kernel
theorem dX4_copy_43 : decode cX4_copy 43 = .ok (.aload_n 1, 1) := by decide +kernel
theorem dX4_copy_44 : decode cX4_copy 44 = .ok (.getfield 18, 3) := by decide +kernel
theorem dX4_copy_47 : decode cX4_copy 47 = .ok (.iconst 0, 1) := by decide +kernel
theorem dX4_copy_48 : decode cX4_copy 48 = .ok (.bipush 24, 2) := by decide +kernel
theorem dX4_copy_50 : decode cX4_copy 50 = .ok (.invokestatic 38, 3) := by decide +kernel
theorem dX4_copy_53 : decode cX4_copy 53 = .ok (.aload_n 0, 1) := by decide +kernel
theorem dX4_copy_54 : decode cX4_copy 54 = .ok (.getfield 24, 3) := by decide +kernel
theorem dX4_copy_57 : decode cX4_copy 57 = .ok (.getfield 47, 3) := by decide +kernel
theorem dX4_copy_60 : decode cX4_copy 60 = .ok (.iconst 0, 1) := by decide +kernel
theorem dX4_copy_61 : decode cX4_copy 61 = .ok (.aload_n 1, 1) := by decide +kernel
theorem dX4_copy_62 : decode cX4_copy 62 = .ok (.getfield 24, 3) := by decide +kernel
theorem dX4_copy_65 : decode cX4_copy 65 = .ok (.getfield 47, 3) := by decide +kernel
theorem dX4_copy_68 : decode cX4_copy 68 = .ok (.iconst 0, 1) := by decide +kernel
theorem dX4_copy_69 : decode cX4_copy 69 = .ok (.sipush 192, 3) := by decide +kernel
theorem dX4_copy_72 : decode cX4_copy 72 = .ok (.invokestatic 38, 3) := by decide +kernel
theorem dX4_copy_75 : decode cX4_copy 75 = .ok (.aload_n 0, 1) := by decide +kernel
theorem dX4_copy_76 : decode cX4_copy 76 = .ok (.getfield 31, 3) := by decide +kernel
theorem dX4_copy_79 : decode cX4_copy 79 = .ok (.getfield 50, 3) := by decide +kernel
theorem dX4_copy_82 : decode cX4_copy 82 = .ok (.iconst 0, 1) := by decide +kernel
theorem dX4_copy_83 : decode cX4_copy 83 = .ok (.aload_n 1, 1) := by decide +kernel
theorem dX4_copy_84 : decode cX4_copy 84 = .ok (.getfield 31, 3) := by decide +kernel
theorem dX4_copy_87 : decode cX4_copy 87 = .ok (.getfield 50, 3) := by decide +kernel
theorem dX4_copy_90 : decode cX4_copy 90 = .ok (.iconst 0, 1) := by decide +kernel
theorem dX4_copy_91 : decode cX4_copy 91 = .ok (.bipush 12, 2) := by decide +kernel
theorem dX4_copy_93 : decode cX4_copy 93 = .ok (.invokestatic 38, 3) := by decide +kernel
theorem dX4_copy_96 : decode cX4_copy 96 = .ok (.aload_n 0, 1) := by decide +kernel
theorem dX4_copy_97 : decode cX4_copy 97 = .ok (.getfield 31, 3) := by decide +kernel
theorem dX4_copy_100 : decode cX4_copy 100 = .ok (.getfield 53, 3) := by decide +kernel
theorem dX4_copy_103 : decode cX4_copy 103 = .ok (.iconst 0, 1) := by decide +kernel
theorem dX4_copy_104 : decode cX4_copy 104 = .ok (.aload_n 1, 1) := by decide +kernel
theorem dX4_copy_105 : decode cX4_copy 105 = .ok (.getfield 31, 3) := by decide +kernel
theorem dX4_copy_108 : decode cX4_copy 108 = .ok (.getfield 53, 3) := by decide +kernel
theorem dX4_copy_111 : decode cX4_copy 111 = .ok (.iconst 0, 1) := by decide +kernel
theorem dX4_copy_112 : decode cX4_copy 112 = .ok (.bipush 12, 2) := by decide +kernel
theorem dX4_copy_114 : decode cX4_copy 114 = .ok (.invokestatic 38, 3) := by decide +kernel
theorem dX4_copy_117 : decode cX4_copy 117 = .ok (.aload_n 1, 1) := by decide +kernel
theorem dX4_copy_118 : decode cX4_copy 118 = .ok (.aload_n 0, 1) := by decide +kernel
theorem dX4_copy_119 : decode cX4_copy 119 = .ok (.getfield 56, 3) := by decide +kernel
theorem dX4_copy_122 : decode cX4_copy 122 = .ok (.putfield 56, 3) := by decide +kernel
theorem dX4_copy_125 : decode cX4_copy 125 = .ok (.aload_n 1, 1) := by decide +kernel
theorem dX4_copy_126 : decode cX4_copy 126 = .ok (.getfield 24, 3) := by decide +kernel
theorem dX4_copy_129 : decode cX4_copy 129 = .ok (.aload_n 0, 1) := by decide +kernel
theorem dX4_copy_130 : decode cX4_copy 130 = .ok (.getfield 24, 3) := by decide +kernel
theorem dX4_copy_133 : decode cX4_copy 133 = .ok (.getfield 60, 3) := by decide +kernel
theorem dX4_copy_136 : decode cX4_copy 136 = .ok (.putfield 60, 3) := by decide +kernel
theorem dX4_copy_139 : decode cX4_copy 139 = .ok (.aload_n 1, 1) := by decide +kernel
theorem dX4_copy_140 : decode cX4_copy 140 = .ok (.getfield 31, 3) := by decide +kernel
theorem dX4_copy_143 : decode cX4_copy 143 = .ok (.aload_n 0, 1) := by decide +kernel
theorem dX4_copy_144 : decode cX4_copy 144 = .ok (.getfield 31, 3) := by decide +kernel
theorem dX4_copy_147 : decode cX4_copy 147 = .ok (.getfield 63, 3) := by decide +kernel
theorem dX4_copy_150 : decode cX4_copy 150 = .ok (.putfield 63, 3) := by decide +kernel
theorem dX4_copy_153 : decode cX4_copy 153 = .ok (.return_, 1) := by decide +kernel
theorem dX4_hasSource_0 : decode cX4_hasSource 0 = .ok (.iload_n 1, 1) := by decide +kernel
theorem dX4_hasSource_1 : decode cX4_hasSource 1 = .ok (.ifCond .lt 15, 3) := by decide +kernel
theorem dX4_hasSource_4 : decode cX4_hasSource 4 = .ok (.iload_n 1, 1) := by decide +kernel
theorem dX4_hasSource_5 : decode cX4_hasSource 5 = .ok (.aload_n 0, 1) := by decide +kernel
theorem dX4_hasSource_6 : decode cX4_hasSource 6 = .ok (.getfield 56, 3) := by decide +kernel
theorem dX4_hasSource_9 : decode cX4_hasSource 9 = .ok (.if_icmp .ge 7, 3) := by decide +kernel
theorem dX4_hasSource_12 : decode cX4_hasSource 12 = .ok (.iconst 1, 1) := by decide +kernel
theorem dX4_hasSource_13 : decode cX4_hasSource 13 = .ok (.goto 4, 3) := by decide +kernel
theorem dX4_hasSource_16 : decode cX4_hasSource 16 = .ok (.iconst 0, 1) := by decide +kernel
theorem dX4_hasSource_17 : decode cX4_hasSource 17 = .ok (.ireturn, 1) := by decide +kernel
theorem dX4_sourceNumber_0 : decode cX4_sourceNumber 0 = .ok (.aload_n 0, 1) := by decide +kernel
theorem dX4_sourceNumber_1 : decode cX4_sourceNumber 1 = .ok (.getfield 18, 3) := by decide +kernel
theorem dX4_sourceNumber_4 : decode cX4_sourceNumber 4 = .ok (.iload_n 1, 1) := by decide +kernel
theorem dX4_sourceNumber_5 : decode cX4_sourceNumber 5 = .ok (.iconst 4, 1) := by decide +kernel
theorem dX4_sourceNumber_6 : decode cX4_sourceNumber 6 = .ok (.imul, 1) := by decide +kernel
theorem dX4_sourceNumber_7 : decode cX4_sourceNumber 7 = .ok (.iload_n 2, 1) := by decide +kernel
theorem dX4_sourceNumber_8 : decode cX4_sourceNumber 8 = .ok (.iadd, 1) := by decide +kernel
theorem dX4_sourceNumber_9 : decode cX4_sourceNumber 9 = .ok (.iaload, 1) := by decide +kernel
theorem dX4_sourceNumber_10 : decode cX4_sourceNumber 10 = .ok (.ireturn, 1) := by decide +kernel
theorem dX4_putSource_0 : decode cX4_putSource 0 = .ok (.iload_n 1, 1) := by decide +kernel
theorem dX4_putSource_1 : decode cX4_putSource 1 = .ok (.ifCond .lt 51, 3) := by decide +kernel
theorem dX4_putSource_4 : decode cX4_putSource 4 = .ok (.iload_n 1, 1) := by decide +kernel
theorem dX4_putSource_5 : decode cX4_putSource 5 = .ok (.iconst 3, 1) := by decide +kernel
theorem dX4_putSource_6 : decode cX4_putSource 6 = .ok (.if_icmp .gt 46, 3) := by decide +kernel
theorem dX4_putSource_9 : decode cX4_putSource 9 = .ok (.iload_n 2, 1) := by decide +kernel
theorem dX4_putSource_10 : decode cX4_putSource 10 = .ok (.iconst 1, 1) := by decide +kernel
theorem dX4_putSource_11 : decode cX4_putSource 11 = .ok (.if_icmp .lt 41, 3) := by decide +kernel
theorem dX4_putSource_14 : decode cX4_putSource 14 = .ok (.iload_n 2, 1) := by decide +kernel
theorem dX4_putSource_15 : decode cX4_putSource 15 = .ok (.sipush 200, 3) := by decide +kernel
theorem dX4_putSource_18 : decode cX4_putSource 18 = .ok (.if_icmp .gt 34, 3) := by decide +kernel
theorem dX4_putSource_21 : decode cX4_putSource 21 = .ok (.iload_n 3, 1) := by decide +kernel
theorem dX4_putSource_22 : decode cX4_putSource 22 = .ok (.ifCond .lt 30, 3) := by decide +kernel
theorem dX4_putSource_25 : decode cX4_putSource 25 = .ok (.iload_n 3, 1) := by decide +kernel
theorem dX4_putSource_26 : decode cX4_putSource 26 = .ok (.sipush 999, 3) := by decide +kernel
theorem dX4_putSource_29 : decode cX4_putSource 29 = .ok (.if_icmp .gt 23, 3) := by decide +kernel
theorem dX4_putSource_32 : decode cX4_putSource 32 = .ok (.iload 4, 2) := by decide +kernel
theorem dX4_putSource_34 : decode cX4_putSource 34 = .ok (.getstatic 64, 3) := by decide +kernel
theorem dX4_putSource_37 : decode cX4_putSource 37 = .ok (.iload_n 1, 1) := by decide +kernel
theorem dX4_putSource_38 : decode cX4_putSource 38 = .ok (.iaload, 1) := by decide +kernel
theorem dX4_putSource_39 : decode cX4_putSource 39 = .ok (.if_icmp .lt 13, 3) := by decide +kernel
theorem dX4_putSource_42 : decode cX4_putSource 42 = .ok (.iload 4, 2) := by decide +kernel
theorem dX4_putSource_44 : decode cX4_putSource 44 = .ok (.getstatic 67, 3) := by decide +kernel
theorem dX4_putSource_47 : decode cX4_putSource 47 = .ok (.iload_n 1, 1) := by decide +kernel
theorem dX4_putSource_48 : decode cX4_putSource 48 = .ok (.iaload, 1) := by decide +kernel
theorem dX4_putSource_49 : decode cX4_putSource 49 = .ok (.if_icmp .le 6, 3) := by decide +kernel
theorem dX4_putSource_52 : decode cX4_putSource 52 = .ok (.bipush (-2), 2) := by decide +kernel
theorem dX4_putSource_54 : decode cX4_putSource 54 = .ok (.ireturn, 1) := by decide +kernel
theorem dX4_putSource_55 : decode cX4_putSource 55 = .ok (.aload_n 0, 1) := by decide +kernel
theorem dX4_putSource_56 : decode cX4_putSource 56 = .ok (.getfield 56, 3) := by decide +kernel
theorem dX4_putSource_59 : decode cX4_putSource 59 = .ok (.bipush 6, 2) := by decide +kernel
theorem dX4_putSource_61 : decode cX4_putSource 61 = .ok (.if_icmp .lt 6, 3) := by decide +kernel
theorem dX4_putSource_64 : decode cX4_putSource 64 = .ok (.bipush (-3), 2) := by decide +kernel
theorem dX4_putSource_66 : decode cX4_putSource 66 = .ok (.ireturn, 1) := by decide +kernel
theorem dX4_putSource_67 : decode cX4_putSource 67 = .ok (.aload_n 0, 1) := by decide +kernel
theorem dX4_putSource_68 : decode cX4_putSource 68 = .ok (.getfield 56, 3) := by decide +kernel
theorem dX4_putSource_71 : decode cX4_putSource 71 = .ok (.iconst 4, 1) := by decide +kernel
theorem dX4_putSource_72 : decode cX4_putSource 72 = .ok (.imul, 1) := by decide +kernel
theorem dX4_putSource_73 : decode cX4_putSource 73 = .ok (.istore 5, 2) := by decide +kernel
theorem dX4_putSource_75 : decode cX4_putSource 75 = .ok (.aload_n 0, 1) := by decide +kernel
theorem dX4_putSource_76 : decode cX4_putSource 76 = .ok (.getfield 18, 3) := by decide +kernel
theorem dX4_putSource_79 : decode cX4_putSource 79 = .ok (.iload 5, 2) := by decide +kernel
theorem dX4_putSource_81 : decode cX4_putSource 81 = .ok (.iconst 0, 1) := by decide +kernel
theorem dX4_putSource_82 : decode cX4_putSource 82 = .ok (.iadd, 1) := by decide +kernel
theorem dX4_putSource_83 : decode cX4_putSource 83 = .ok (.iload_n 1, 1) := by decide +kernel
theorem dX4_putSource_84 : decode cX4_putSource 84 = .ok (.iastore, 1) := by decide +kernel
theorem dX4_putSource_85 : decode cX4_putSource 85 = .ok (.aload_n 0, 1) := by decide +kernel
theorem dX4_putSource_86 : decode cX4_putSource 86 = .ok (.getfield 18, 3) := by decide +kernel
theorem dX4_putSource_89 : decode cX4_putSource 89 = .ok (.iload 5, 2) := by decide +kernel
theorem dX4_putSource_91 : decode cX4_putSource 91 = .ok (.iconst 1, 1) := by decide +kernel
theorem dX4_putSource_92 : decode cX4_putSource 92 = .ok (.iadd, 1) := by decide +kernel
theorem dX4_putSource_93 : decode cX4_putSource 93 = .ok (.iload_n 2, 1) := by decide +kernel
theorem dX4_putSource_94 : decode cX4_putSource 94 = .ok (.iastore, 1) := by decide +kernel
theorem dX4_putSource_95 : decode cX4_putSource 95 = .ok (.aload_n 0, 1) := by decide +kernel
theorem dX4_putSource_96 : decode cX4_putSource 96 = .ok (.getfield 18, 3) := by decide +kernel
theorem dX4_putSource_99 : decode cX4_putSource 99 = .ok (.iload 5, 2) := by decide +kernel
theorem dX4_putSource_101 : decode cX4_putSource 101 = .ok (.iconst 2, 1) := by decide +kernel
theorem dX4_putSource_102 : decode cX4_putSource 102 = .ok (.iadd, 1) := by decide +kernel
theorem dX4_putSource_103 : decode cX4_putSource 103 = .ok (.iload_n 3, 1) := by decide +kernel
theorem dX4_putSource_104 : decode cX4_putSource 104 = .ok (.iastore, 1) := by decide +kernel
theorem dX4_putSource_105 : decode cX4_putSource 105 = .ok (.aload_n 0, 1) := by decide +kernel
theorem dX4_putSource_106 : decode cX4_putSource 106 = .ok (.getfield 18, 3) := by decide +kernel
theorem dX4_putSource_109 : decode cX4_putSource 109 = .ok (.iload 5, 2) := by decide +kernel
theorem dX4_putSource_111 : decode cX4_putSource 111 = .ok (.iconst 3, 1) := by decide +kernel
theorem dX4_putSource_112 : decode cX4_putSource 112 = .ok (.iadd, 1) := by decide +kernel
theorem dX4_putSource_113 : decode cX4_putSource 113 = .ok (.iload 4, 2) := by decide +kernel
theorem dX4_putSource_115 : decode cX4_putSource 115 = .ok (.iastore, 1) := by decide +kernel
theorem dX4_putSource_116 : decode cX4_putSource 116 = .ok (.aload_n 0, 1) := by decide +kernel
theorem dX4_putSource_117 : decode cX4_putSource 117 = .ok (.dup, 1) := by decide +kernel
theorem dX4_putSource_118 : decode cX4_putSource 118 = .ok (.getfield 56, 3) := by decide +kernel
theorem dX4_putSource_121 : decode cX4_putSource 121 = .ok (.iconst 1, 1) := by decide +kernel
theorem dX4_putSource_122 : decode cX4_putSource 122 = .ok (.iadd, 1) := by decide +kernel
theorem dX4_putSource_123 : decode cX4_putSource 123 = .ok (.putfield 56, 3) := by decide +kernel
theorem dX4_putSource_126 : decode cX4_putSource 126 = .ok (.aload_n 0, 1) := by decide +kernel
theorem dX4_putSource_127 : decode cX4_putSource 127 = .ok (.getfield 56, 3) := by decide +kernel
theorem dX4_putSource_130 : decode cX4_putSource 130 = .ok (.iconst 1, 1) := by decide +kernel
theorem dX4_putSource_131 : decode cX4_putSource 131 = .ok (.isub, 1) := by decide +kernel
theorem dX4_putSource_132 : decode cX4_putSource 132 = .ok (.ireturn, 1) := by decide +kernel
theorem dX4_changeSetting_0 : decode cX4_changeSetting 0 = .ok (.iload_n 1, 1) := by decide +kernel
theorem dX4_changeSetting_1 : decode cX4_changeSetting 1 = .ok (.ifCond .lt 26, 3) := by decide +kernel
theorem dX4_changeSetting_4 : decode cX4_changeSetting 4 = .ok (.iload_n 1, 1) := by decide +kernel
theorem dX4_changeSetting_5 : decode cX4_changeSetting 5 = .ok (.iconst 5, 1) := by decide +kernel
theorem dX4_changeSetting_6 : decode cX4_changeSetting 6 = .ok (.if_icmp .ge 21, 3) := by decide +kernel
theorem dX4_changeSetting_9 : decode cX4_changeSetting 9 = .ok (.iload_n 2, 1) := by decide +kernel
theorem dX4_changeSetting_10 : decode cX4_changeSetting 10 = .ok (.getstatic 70, 3) := by decide +kernel
theorem dX4_changeSetting_13 : decode cX4_changeSetting 13 = .ok (.iload_n 1, 1) := by decide +kernel
theorem dX4_changeSetting_14 : decode cX4_changeSetting 14 = .ok (.iaload, 1) := by decide +kernel
theorem dX4_changeSetting_15 : decode cX4_changeSetting 15 = .ok (.if_icmp .lt 12, 3) := by decide +kernel
theorem dX4_changeSetting_18 : decode cX4_changeSetting 18 = .ok (.iload_n 2, 1) := by decide +kernel
theorem dX4_changeSetting_19 : decode cX4_changeSetting 19 = .ok (.getstatic 73, 3) := by decide +kernel
theorem dX4_changeSetting_22 : decode cX4_changeSetting 22 = .ok (.iload_n 1, 1) := by decide +kernel
theorem dX4_changeSetting_23 : decode cX4_changeSetting 23 = .ok (.iaload, 1) := by decide +kernel
theorem dX4_changeSetting_24 : decode cX4_changeSetting 24 = .ok (.if_icmp .le 6, 3) := by decide +kernel
theorem dX4_changeSetting_27 : decode cX4_changeSetting 27 = .ok (.bipush (-2), 2) := by decide +kernel
theorem dX4_changeSetting_29 : decode cX4_changeSetting 29 = .ok (.ireturn, 1) := by decide +kernel
theorem dX4_changeSetting_30 : decode cX4_changeSetting 30 = .ok (.aload_n 0, 1) := by decide +kernel
theorem dX4_changeSetting_31 : decode cX4_changeSetting 31 = .ok (.getfield 9, 3) := by decide +kernel
theorem dX4_changeSetting_34 : decode cX4_changeSetting 34 = .ok (.iload_n 1, 1) := by decide +kernel
theorem dX4_changeSetting_35 : decode cX4_changeSetting 35 = .ok (.iaload, 1) := by decide +kernel
theorem dX4_changeSetting_36 : decode cX4_changeSetting 36 = .ok (.istore_n 3, 1) := by decide +kernel
theorem dX4_changeSetting_37 : decode cX4_changeSetting 37 = .ok (.aload_n 0, 1) := by decide +kernel
theorem dX4_changeSetting_38 : decode cX4_changeSetting 38 = .ok (.getfield 9, 3) := by decide +kernel
theorem dX4_changeSetting_41 : decode cX4_changeSetting 41 = .ok (.iload_n 1, 1) := by decide +kernel
theorem dX4_changeSetting_42 : decode cX4_changeSetting 42 = .ok (.iload_n 2, 1) := by decide +kernel
theorem dX4_changeSetting_43 : decode cX4_changeSetting 43 = .ok (.iastore, 1) := by decide +kernel
theorem dX4_changeSetting_44 : decode cX4_changeSetting 44 = .ok (.iload_n 3, 1) := by decide +kernel
theorem dX4_changeSetting_45 : decode cX4_changeSetting 45 = .ok (.ireturn, 1) := by decide +kernel
theorem dX4_trackNumber_0 : decode cX4_trackNumber 0 = .ok (.aload_n 0, 1) := by decide +kernel
theorem dX4_trackNumber_1 : decode cX4_trackNumber 1 = .ok (.getfield 15, 3) := by decide +kernel
theorem dX4_trackNumber_4 : decode cX4_trackNumber 4 = .ok (.iload_n 1, 1) := by decide +kernel
theorem dX4_trackNumber_5 : decode cX4_trackNumber 5 = .ok (.bipush 7, 2) := by decide +kernel
theorem dX4_trackNumber_7 : decode cX4_trackNumber 7 = .ok (.imul, 1) := by decide +kernel
theorem dX4_trackNumber_8 : decode cX4_trackNumber 8 = .ok (.iload_n 2, 1) := by decide +kernel
theorem dX4_trackNumber_9 : decode cX4_trackNumber 9 = .ok (.iadd, 1) := by decide +kernel
theorem dX4_trackNumber_10 : decode cX4_trackNumber 10 = .ok (.iaload, 1) := by decide +kernel
theorem dX4_trackNumber_11 : decode cX4_trackNumber 11 = .ok (.ireturn, 1) := by decide +kernel
theorem dX4_fitsTrack_0 : decode cX4_fitsTrack 0 = .ok (.iload_n 2, 1) := by decide +kernel
theorem dX4_fitsTrack_1 : decode cX4_fitsTrack 1 = .ok (.ifCond .lt 41, 3) := by decide +kernel
theorem dX4_fitsTrack_4 : decode cX4_fitsTrack 4 = .ok (.iload_n 2, 1) := by decide +kernel
theorem dX4_fitsTrack_5 : decode cX4_fitsTrack 5 = .ok (.bipush 7, 2) := by decide +kernel
theorem dX4_fitsTrack_7 : decode cX4_fitsTrack 7 = .ok (.if_icmp .ge 35, 3) := by decide +kernel
theorem dX4_fitsTrack_10 : decode cX4_fitsTrack 10 = .ok (.iload_n 3, 1) := by decide +kernel
theorem dX4_fitsTrack_11 : decode cX4_fitsTrack 11 = .ok (.getstatic 76, 3) := by decide +kernel
theorem dX4_fitsTrack_14 : decode cX4_fitsTrack 14 = .ok (.iload_n 2, 1) := by decide +kernel
theorem dX4_fitsTrack_15 : decode cX4_fitsTrack 15 = .ok (.iaload, 1) := by decide +kernel
theorem dX4_fitsTrack_16 : decode cX4_fitsTrack 16 = .ok (.if_icmp .lt 26, 3) := by decide +kernel
theorem dX4_fitsTrack_19 : decode cX4_fitsTrack 19 = .ok (.iload_n 3, 1) := by decide +kernel
theorem dX4_fitsTrack_20 : decode cX4_fitsTrack 20 = .ok (.getstatic 79, 3) := by decide +kernel
theorem dX4_fitsTrack_23 : decode cX4_fitsTrack 23 = .ok (.iload_n 2, 1) := by decide +kernel
theorem dX4_fitsTrack_24 : decode cX4_fitsTrack 24 = .ok (.iaload, 1) := by decide +kernel
theorem dX4_fitsTrack_25 : decode cX4_fitsTrack 25 = .ok (.if_icmp .gt 17, 3) := by decide +kernel
theorem dX4_fitsTrack_28 : decode cX4_fitsTrack 28 = .ok (.iload_n 2, 1) := by decide +kernel
theorem dX4_fitsTrack_29 : decode cX4_fitsTrack 29 = .ok (.iconst 3, 1) := by decide +kernel
theorem dX4_fitsTrack_30 : decode cX4_fitsTrack 30 = .ok (.if_icmp .ne 8, 3) := by decide +kernel
theorem dX4_fitsTrack_33 : decode cX4_fitsTrack 33 = .ok (.iload_n 3, 1) := by decide +kernel
theorem dX4_fitsTrack_34 : decode cX4_fitsTrack 34 = .ok (.iload_n 1, 1) := by decide +kernel
theorem dX4_fitsTrack_35 : decode cX4_fitsTrack 35 = .ok (.if_icmp .eq 7, 3) := by decide +kernel
theorem dX4_fitsTrack_38 : decode cX4_fitsTrack 38 = .ok (.iconst 1, 1) := by decide +kernel
theorem dX4_fitsTrack_39 : decode cX4_fitsTrack 39 = .ok (.goto 4, 3) := by decide +kernel
theorem dX4_fitsTrack_42 : decode cX4_fitsTrack 42 = .ok (.iconst 0, 1) := by decide +kernel
theorem dX4_fitsTrack_43 : decode cX4_fitsTrack 43 = .ok (.ireturn, 1) := by decide +kernel
theorem dX4_isAudible_0 : decode cX4_isAudible 0 = .ok (.aload_n 0, 1) := by decide +kernel
theorem dX4_isAudible_1 : decode cX4_isAudible 1 = .ok (.iload_n 1, 1) := by decide +kernel
theorem dX4_isAudible_2 : decode cX4_isAudible 2 = .ok (.iconst 1, 1) := by decide +kernel
theorem dX4_isAudible_3 : decode cX4_isAudible 3 = .ok (.invokevirtual 82, 3) := by decide +kernel
theorem dX4_isAudible_6 : decode cX4_isAudible 6 = .ok (.ifCond .ne 24, 3) := by decide +kernel
theorem dX4_isAudible_9 : decode cX4_isAudible 9 = .ok (.aload_n 0, 1) := by decide +kernel
theorem dX4_isAudible_10 : decode cX4_isAudible 10 = .ok (.iload_n 1, 1) := by decide +kernel
theorem dX4_isAudible_11 : decode cX4_isAudible 11 = .ok (.iconst 2, 1) := by decide +kernel
theorem dX4_isAudible_12 : decode cX4_isAudible 12 = .ok (.invokevirtual 82, 3) := by decide +kernel
theorem dX4_isAudible_15 : decode cX4_isAudible 15 = .ok (.iconst 1, 1) := by decide +kernel
theorem dX4_isAudible_16 : decode cX4_isAudible 16 = .ok (.if_icmp .eq 10, 3) := by decide +kernel
theorem dX4_isAudible_19 : decode cX4_isAudible 19 = .ok (.aload_n 0, 1) := by decide +kernel
theorem dX4_isAudible_20 : decode cX4_isAudible 20 = .ok (.invokevirtual 86, 3) := by decide +kernel
theorem dX4_isAudible_23 : decode cX4_isAudible 23 = .ok (.ifCond .ne 7, 3) := by decide +kernel
theorem dX4_isAudible_26 : decode cX4_isAudible 26 = .ok (.iconst 1, 1) := by decide +kernel
theorem dX4_isAudible_27 : decode cX4_isAudible 27 = .ok (.goto 4, 3) := by decide +kernel
theorem dX4_isAudible_30 : decode cX4_isAudible 30 = .ok (.iconst 0, 1) := by decide +kernel
theorem dX4_isAudible_31 : decode cX4_isAudible 31 = .ok (.ireturn, 1) := by decide +kernel
theorem dX4_isAnySolo_0 : decode cX4_isAnySolo 0 = .ok (.iconst 0, 1) := by decide +kernel
theorem dX4_isAnySolo_1 : decode cX4_isAnySolo 1 = .ok (.istore_n 1, 1) := by decide +kernel
theorem dX4_isAnySolo_2 : decode cX4_isAnySolo 2 = .ok (.iload_n 1, 1) := by decide +kernel
theorem dX4_isAnySolo_3 : decode cX4_isAnySolo 3 = .ok (.iconst 4, 1) := by decide +kernel
theorem dX4_isAnySolo_4 : decode cX4_isAnySolo 4 = .ok (.if_icmp .ge 21, 3) := by decide +kernel
theorem dX4_isAnySolo_7 : decode cX4_isAnySolo 7 = .ok (.aload_n 0, 1) := by decide +kernel
theorem dX4_isAnySolo_8 : decode cX4_isAnySolo 8 = .ok (.iload_n 1, 1) := by decide +kernel
theorem dX4_isAnySolo_9 : decode cX4_isAnySolo 9 = .ok (.iconst 2, 1) := by decide +kernel
theorem dX4_isAnySolo_10 : decode cX4_isAnySolo 10 = .ok (.invokevirtual 82, 3) := by decide +kernel
theorem dX4_isAnySolo_13 : decode cX4_isAnySolo 13 = .ok (.iconst 1, 1) := by decide +kernel
theorem dX4_isAnySolo_14 : decode cX4_isAnySolo 14 = .ok (.if_icmp .ne 5, 3) := by decide +kernel
theorem dX4_isAnySolo_17 : decode cX4_isAnySolo 17 = .ok (.iconst 1, 1) := by decide +kernel
theorem dX4_isAnySolo_18 : decode cX4_isAnySolo 18 = .ok (.ireturn, 1) := by decide +kernel
theorem dX4_isAnySolo_19 : decode cX4_isAnySolo 19 = .ok (.iinc 1 1, 3) := by decide +kernel
theorem dX4_isAnySolo_22 : decode cX4_isAnySolo 22 = .ok (.goto (-20), 3) := by decide +kernel
theorem dX4_isAnySolo_25 : decode cX4_isAnySolo 25 = .ok (.iconst 0, 1) := by decide +kernel
theorem dX4_isAnySolo_26 : decode cX4_isAnySolo 26 = .ok (.ireturn, 1) := by decide +kernel
theorem dX4_placeClip_0 : decode cX4_placeClip 0 = .ok (.iload_n 1, 1) := by decide +kernel
theorem dX4_placeClip_1 : decode cX4_placeClip 1 = .ok (.invokestatic 90, 3) := by decide +kernel
theorem dX4_placeClip_4 : decode cX4_placeClip 4 = .ok (.ifCond .eq 11, 3) := by decide +kernel
theorem dX4_placeClip_7 : decode cX4_placeClip 7 = .ok (.aload_n 0, 1) := by decide +kernel
theorem dX4_placeClip_8 : decode cX4_placeClip 8 = .ok (.iload_n 3, 1) := by decide +kernel
theorem dX4_placeClip_9 : decode cX4_placeClip 9 = .ok (.invokevirtual 94, 3) := by decide +kernel
theorem dX4_placeClip_12 : decode cX4_placeClip 12 = .ok (.ifCond .ne 5, 3) := by decide +kernel
theorem dX4_placeClip_15 : decode cX4_placeClip 15 = .ok (.iconst (-1), 1) := by decide +kernel
theorem dX4_placeClip_16 : decode cX4_placeClip 16 = .ok (.ireturn, 1) := by decide +kernel
theorem dX4_placeClip_17 : decode cX4_placeClip 17 = .ok (.aload_n 0, 1) := by decide +kernel
theorem dX4_placeClip_18 : decode cX4_placeClip 18 = .ok (.iload_n 3, 1) := by decide +kernel
theorem dX4_placeClip_19 : decode cX4_placeClip 19 = .ok (.iconst 1, 1) := by decide +kernel
theorem dX4_placeClip_20 : decode cX4_placeClip 20 = .ok (.invokevirtual 97, 3) := by decide +kernel
theorem dX4_placeClip_23 : decode cX4_placeClip 23 = .ok (.istore 6, 2) := by decide +kernel
theorem dX4_placeClip_25 : decode cX4_placeClip 25 = .ok (.iload 5, 2) := by decide +kernel
theorem dX4_placeClip_27 : decode cX4_placeClip 27 = .ok (.iconst 1, 1) := by decide +kernel
theorem dX4_placeClip_28 : decode cX4_placeClip 28 = .ok (.if_icmp .lt 39, 3) := by decide +kernel
theorem dX4_placeClip_31 : decode cX4_placeClip 31 = .ok (.iload 5, 2) := by decide +kernel
theorem dX4_placeClip_33 : decode cX4_placeClip 33 = .ok (.iload 6, 2) := by decide +kernel
theorem dX4_placeClip_35 : decode cX4_placeClip 35 = .ok (.if_icmp .gt 32, 3) := by decide +kernel
theorem dX4_placeClip_38 : decode cX4_placeClip 38 = .ok (.iload 4, 2) := by decide +kernel
theorem dX4_placeClip_40 : decode cX4_placeClip 40 = .ok (.ifCond .lt 27, 3) := by decide +kernel
theorem dX4_placeClip_43 : decode cX4_placeClip 43 = .ok (.iload 4, 2) := by decide +kernel
theorem dX4_placeClip_45 : decode cX4_placeClip 45 = .ok (.iload 6, 2) := by decide +kernel
theorem dX4_placeClip_47 : decode cX4_placeClip 47 = .ok (.iload 5, 2) := by decide +kernel
theorem dX4_placeClip_49 : decode cX4_placeClip 49 = .ok (.isub, 1) := by decide +kernel
theorem dX4_placeClip_50 : decode cX4_placeClip 50 = .ok (.if_icmp .gt 17, 3) := by decide +kernel
theorem dX4_placeClip_53 : decode cX4_placeClip 53 = .ok (.iload_n 2, 1) := by decide +kernel
theorem dX4_placeClip_54 : decode cX4_placeClip 54 = .ok (.ifCond .lt 13, 3) := by decide +kernel
theorem dX4_placeClip_57 : decode cX4_placeClip 57 = .ok (.iload_n 2, 1) := by decide +kernel
theorem dX4_placeClip_58 : decode cX4_placeClip 58 = .ok (.sipush 600, 3) := by decide +kernel
theorem dX4_placeClip_61 : decode cX4_placeClip 61 = .ok (.iload 5, 2) := by decide +kernel
theorem dX4_placeClip_63 : decode cX4_placeClip 63 = .ok (.isub, 1) := by decide +kernel
theorem dX4_placeClip_64 : decode cX4_placeClip 64 = .ok (.if_icmp .le 6, 3) := by decide +kernel
theorem dX4_placeClip_67 : decode cX4_placeClip 67 = .ok (.bipush (-2), 2) := by decide +kernel
theorem dX4_placeClip_69 : decode cX4_placeClip 69 = .ok (.ireturn, 1) := by decide +kernel
theorem dX4_placeClip_70 : decode cX4_placeClip 70 = .ok (.aload_n 0, 1) := by decide +kernel
theorem dX4_placeClip_71 : decode cX4_placeClip 71 = .ok (.getfield 24, 3) := by decide +kernel
theorem dX4_placeClip_74 : decode cX4_placeClip 74 = .ok (.getfield 60, 3) := by decide +kernel
theorem dX4_placeClip_77 : decode cX4_placeClip 77 = .ok (.bipush 24, 2) := by decide +kernel
theorem dX4_placeClip_79 : decode cX4_placeClip 79 = .ok (.if_icmp .lt 6, 3) := by decide +kernel
theorem dX4_placeClip_82 : decode cX4_placeClip 82 = .ok (.bipush (-3), 2) := by decide +kernel
theorem dX4_placeClip_84 : decode cX4_placeClip 84 = .ok (.ireturn, 1) := by decide +kernel
theorem dX4_placeClip_85 : decode cX4_placeClip 85 = .ok (.aload_n 0, 1) := by decide +kernel
theorem dX4_placeClip_86 : decode cX4_placeClip 86 = .ok (.getfield 24, 3) := by decide +kernel
theorem dX4_placeClip_89 : decode cX4_placeClip 89 = .ok (.iload_n 1, 1) := by decide +kernel
theorem dX4_placeClip_90 : decode cX4_placeClip 90 = .ok (.iload_n 2, 1) := by decide +kernel
theorem dX4_placeClip_91 : decode cX4_placeClip 91 = .ok (.iload 5, 2) := by decide +kernel
theorem dX4_placeClip_93 : decode cX4_placeClip 93 = .ok (.iconst (-1), 1) := by decide +kernel
theorem dX4_placeClip_94 : decode cX4_placeClip 94 = .ok (.invokevirtual 100, 3) := by decide +kernel
theorem dX4_placeClip_97 : decode cX4_placeClip 97 = .ok (.ifCond .ne 6, 3) := by decide +kernel
theorem dX4_placeClip_100 : decode cX4_placeClip 100 = .ok (.bipush (-4), 2) := by decide +kernel
theorem dX4_placeClip_102 : decode cX4_placeClip 102 = .ok (.ireturn, 1) := by decide +kernel
theorem dX4_placeClip_103 : decode cX4_placeClip 103 = .ok (.aload_n 0, 1) := by decide +kernel
theorem dX4_placeClip_104 : decode cX4_placeClip 104 = .ok (.getfield 24, 3) := by decide +kernel
theorem dX4_placeClip_107 : decode cX4_placeClip 107 = .ok (.iload_n 1, 1) := by decide +kernel
theorem dX4_placeClip_108 : decode cX4_placeClip 108 = .ok (.iload_n 2, 1) := by decide +kernel
theorem dX4_placeClip_109 : decode cX4_placeClip 109 = .ok (.invokevirtual 104, 3) := by decide +kernel
theorem dX4_placeClip_112 : decode cX4_placeClip 112 = .ok (.istore 7, 2) := by decide +kernel
theorem dX4_placeClip_114 : decode cX4_placeClip 114 = .ok (.aload_n 0, 1) := by decide +kernel
theorem dX4_placeClip_115 : decode cX4_placeClip 115 = .ok (.getfield 24, 3) := by decide +kernel
theorem dX4_placeClip_118 : decode cX4_placeClip 118 = .ok (.iload 7, 2) := by decide +kernel
theorem dX4_placeClip_120 : decode cX4_placeClip 120 = .ok (.invokevirtual 107, 3) := by decide +kernel
theorem dX4_placeClip_123 : decode cX4_placeClip 123 = .ok (.aload_n 0, 1) := by decide +kernel
theorem dX4_placeClip_124 : decode cX4_placeClip 124 = .ok (.getfield 24, 3) := by decide +kernel
theorem dX4_placeClip_127 : decode cX4_placeClip 127 = .ok (.iload 7, 2) := by decide +kernel
theorem dX4_placeClip_129 : decode cX4_placeClip 129 = .ok (.iconst 0, 1) := by decide +kernel
theorem dX4_placeClip_130 : decode cX4_placeClip 130 = .ok (.iload_n 1, 1) := by decide +kernel
theorem dX4_placeClip_131 : decode cX4_placeClip 131 = .ok (.invokevirtual 111, 3) := by decide +kernel
theorem dX4_placeClip_134 : decode cX4_placeClip 134 = .ok (.aload_n 0, 1) := by decide +kernel
theorem dX4_placeClip_135 : decode cX4_placeClip 135 = .ok (.getfield 24, 3) := by decide +kernel
theorem dX4_placeClip_138 : decode cX4_placeClip 138 = .ok (.iload 7, 2) := by decide +kernel
theorem dX4_placeClip_140 : decode cX4_placeClip 140 = .ok (.iconst 1, 1) := by decide +kernel
theorem dX4_placeClip_141 : decode cX4_placeClip 141 = .ok (.iload_n 2, 1) := by decide +kernel
theorem dX4_placeClip_142 : decode cX4_placeClip 142 = .ok (.invokevirtual 111, 3) := by decide +kernel
theorem dX4_placeClip_145 : decode cX4_placeClip 145 = .ok (.aload_n 0, 1) := by decide +kernel
theorem dX4_placeClip_146 : decode cX4_placeClip 146 = .ok (.getfield 24, 3) := by decide +kernel
theorem dX4_placeClip_149 : decode cX4_placeClip 149 = .ok (.iload 7, 2) := by decide +kernel
theorem dX4_placeClip_151 : decode cX4_placeClip 151 = .ok (.iconst 2, 1) := by decide +kernel
theorem dX4_placeClip_152 : decode cX4_placeClip 152 = .ok (.iload_n 3, 1) := by decide +kernel
theorem dX4_placeClip_153 : decode cX4_placeClip 153 = .ok (.invokevirtual 111, 3) := by decide +kernel
theorem dX4_placeClip_156 : decode cX4_placeClip 156 = .ok (.aload_n 0, 1) := by decide +kernel
theorem dX4_placeClip_157 : decode cX4_placeClip 157 = .ok (.getfield 24, 3) := by decide +kernel
theorem dX4_placeClip_160 : decode cX4_placeClip 160 = .ok (.iload 7, 2) := by decide +kernel
theorem dX4_placeClip_162 : decode cX4_placeClip 162 = .ok (.iconst 3, 1) := by decide +kernel
theorem dX4_placeClip_163 : decode cX4_placeClip 163 = .ok (.iload 4, 2) := by decide +kernel
theorem dX4_placeClip_165 : decode cX4_placeClip 165 = .ok (.invokevirtual 111, 3) := by decide +kernel
theorem dX4_placeClip_168 : decode cX4_placeClip 168 = .ok (.aload_n 0, 1) := by decide +kernel
theorem dX4_placeClip_169 : decode cX4_placeClip 169 = .ok (.getfield 24, 3) := by decide +kernel
theorem dX4_placeClip_172 : decode cX4_placeClip 172 = .ok (.iload 7, 2) := by decide +kernel
theorem dX4_placeClip_174 : decode cX4_placeClip 174 = .ok (.iconst 4, 1) := by decide +kernel
theorem dX4_placeClip_175 : decode cX4_placeClip 175 = .ok (.iload 5, 2) := by decide +kernel
theorem dX4_placeClip_177 : decode cX4_placeClip 177 = .ok (.invokevirtual 111, 3) := by decide +kernel
theorem dX4_placeClip_180 : decode cX4_placeClip 180 = .ok (.aload_n 0, 1) := by decide +kernel
theorem dX4_placeClip_181 : decode cX4_placeClip 181 = .ok (.getfield 24, 3) := by decide +kernel
theorem dX4_placeClip_184 : decode cX4_placeClip 184 = .ok (.iload 7, 2) := by decide +kernel
theorem dX4_placeClip_186 : decode cX4_placeClip 186 = .ok (.iconst 5, 1) := by decide +kernel
theorem dX4_placeClip_187 : decode cX4_placeClip 187 = .ok (.bipush 100, 2) := by decide +kernel
theorem dX4_placeClip_189 : decode cX4_placeClip 189 = .ok (.invokevirtual 111, 3) := by decide +kernel
theorem dX4_placeClip_192 : decode cX4_placeClip 192 = .ok (.aload_n 0, 1) := by decide +kernel
theorem dX4_placeClip_193 : decode cX4_placeClip 193 = .ok (.getfield 24, 3) := by decide +kernel
theorem dX4_placeClip_196 : decode cX4_placeClip 196 = .ok (.iload 7, 2) := by decide +kernel
theorem dX4_placeClip_198 : decode cX4_placeClip 198 = .ok (.bipush 6, 2) := by decide +kernel
theorem dX4_placeClip_200 : decode cX4_placeClip 200 = .ok (.iconst 0, 1) := by decide +kernel
theorem dX4_placeClip_201 : decode cX4_placeClip 201 = .ok (.invokevirtual 111, 3) := by decide +kernel
theorem dX4_placeClip_204 : decode cX4_placeClip 204 = .ok (.aload_n 0, 1) := by decide +kernel
theorem dX4_placeClip_205 : decode cX4_placeClip 205 = .ok (.getfield 24, 3) := by decide +kernel
theorem dX4_placeClip_208 : decode cX4_placeClip 208 = .ok (.iload 7, 2) := by decide +kernel
theorem dX4_placeClip_210 : decode cX4_placeClip 210 = .ok (.bipush 7, 2) := by decide +kernel
theorem dX4_placeClip_212 : decode cX4_placeClip 212 = .ok (.iconst 0, 1) := by decide +kernel
theorem dX4_placeClip_213 : decode cX4_placeClip 213 = .ok (.invokevirtual 111, 3) := by decide +kernel
theorem dX4_placeClip_216 : decode cX4_placeClip 216 = .ok (.iload 7, 2) := by decide +kernel
theorem dX4_placeClip_218 : decode cX4_placeClip 218 = .ok (.ireturn, 1) := by decide +kernel
theorem dX4_trimClip_0 : decode cX4_trimClip 0 = .ok (.aload_n 0, 1) := by decide +kernel
theorem dX4_trimClip_1 : decode cX4_trimClip 1 = .ok (.getfield 24, 3) := by decide +kernel
theorem dX4_trimClip_4 : decode cX4_trimClip 4 = .ok (.iload_n 1, 1) := by decide +kernel
theorem dX4_trimClip_5 : decode cX4_trimClip 5 = .ok (.invokevirtual 115, 3) := by decide +kernel
theorem dX4_trimClip_8 : decode cX4_trimClip 8 = .ok (.ifCond .ne 5, 3) := by decide +kernel
theorem dX4_trimClip_11 : decode cX4_trimClip 11 = .ok (.iconst (-1), 1) := by decide +kernel
theorem dX4_trimClip_12 : decode cX4_trimClip 12 = .ok (.ireturn, 1) := by decide +kernel
theorem dX4_trimClip_13 : decode cX4_trimClip 13 = .ok (.aload_n 0, 1) := by decide +kernel
theorem dX4_trimClip_14 : decode cX4_trimClip 14 = .ok (.getfield 24, 3) := by decide +kernel
theorem dX4_trimClip_17 : decode cX4_trimClip 17 = .ok (.iload_n 1, 1) := by decide +kernel
theorem dX4_trimClip_18 : decode cX4_trimClip 18 = .ok (.iconst 4, 1) := by decide +kernel
theorem dX4_trimClip_19 : decode cX4_trimClip 19 = .ok (.invokevirtual 118, 3) := by decide +kernel
theorem dX4_trimClip_22 : decode cX4_trimClip 22 = .ok (.istore 4, 2) := by decide +kernel
theorem dX4_trimClip_24 : decode cX4_trimClip 24 = .ok (.iload_n 2, 1) := by decide +kernel
theorem dX4_trimClip_25 : decode cX4_trimClip 25 = .ok (.ifCond .lt 26, 3) := by decide +kernel
theorem dX4_trimClip_28 : decode cX4_trimClip 28 = .ok (.iload_n 2, 1) := by decide +kernel
theorem dX4_trimClip_29 : decode cX4_trimClip 29 = .ok (.iconst 1, 1) := by decide +kernel
theorem dX4_trimClip_30 : decode cX4_trimClip 30 = .ok (.if_icmp .gt 21, 3) := by decide +kernel
theorem dX4_trimClip_33 : decode cX4_trimClip 33 = .ok (.iload_n 3, 1) := by decide +kernel
theorem dX4_trimClip_34 : decode cX4_trimClip 34 = .ok (.iload 4, 2) := by decide +kernel
theorem dX4_trimClip_36 : decode cX4_trimClip 36 = .ok (.iconst 1, 1) := by decide +kernel
theorem dX4_trimClip_37 : decode cX4_trimClip 37 = .ok (.isub, 1) := by decide +kernel
theorem dX4_trimClip_38 : decode cX4_trimClip 38 = .ok (.if_icmp .gt 13, 3) := by decide +kernel
theorem dX4_trimClip_41 : decode cX4_trimClip 41 = .ok (.iload_n 3, 1) := by decide +kernel
theorem dX4_trimClip_42 : decode cX4_trimClip 42 = .ok (.iload 4, 2) := by decide +kernel
theorem dX4_trimClip_44 : decode cX4_trimClip 44 = .ok (.sipush 200, 3) := by decide +kernel
theorem dX4_trimClip_47 : decode cX4_trimClip 47 = .ok (.isub, 1) := by decide +kernel
theorem dX4_trimClip_48 : decode cX4_trimClip 48 = .ok (.if_icmp .ge 6, 3) := by decide +kernel
theorem dX4_trimClip_51 : decode cX4_trimClip 51 = .ok (.bipush (-2), 2) := by decide +kernel
theorem dX4_trimClip_53 : decode cX4_trimClip 53 = .ok (.ireturn, 1) := by decide +kernel
theorem dX4_trimClip_54 : decode cX4_trimClip 54 = .ok (.iload 4, 2) := by decide +kernel
theorem dX4_trimClip_56 : decode cX4_trimClip 56 = .ok (.iload_n 3, 1) := by decide +kernel
theorem dX4_trimClip_57 : decode cX4_trimClip 57 = .ok (.isub, 1) := by decide +kernel
theorem dX4_trimClip_58 : decode cX4_trimClip 58 = .ok (.istore 4, 2) := by decide +kernel
theorem dX4_trimClip_60 : decode cX4_trimClip 60 = .ok (.aload_n 0, 1) := by decide +kernel
theorem dX4_trimClip_61 : decode cX4_trimClip 61 = .ok (.getfield 24, 3) := by decide +kernel
theorem dX4_trimClip_64 : decode cX4_trimClip 64 = .ok (.iload_n 1, 1) := by decide +kernel
theorem dX4_trimClip_65 : decode cX4_trimClip 65 = .ok (.iconst 1, 1) := by decide +kernel
theorem dX4_trimClip_66 : decode cX4_trimClip 66 = .ok (.invokevirtual 118, 3) := by decide +kernel
theorem dX4_trimClip_69 : decode cX4_trimClip 69 = .ok (.iload_n 2, 1) := by decide +kernel
theorem dX4_trimClip_70 : decode cX4_trimClip 70 = .ok (.ifCond .ne 7, 3) := by decide +kernel
theorem dX4_trimClip_73 : decode cX4_trimClip 73 = .ok (.iload_n 3, 1) := by decide +kernel
theorem dX4_trimClip_74 : decode cX4_trimClip 74 = .ok (.goto 4, 3) := by decide +kernel
theorem dX4_trimClip_77 : decode cX4_trimClip 77 = .ok (.iconst 0, 1) := by decide +kernel
theorem dX4_trimClip_78 : decode cX4_trimClip 78 = .ok (.iadd, 1) := by decide +kernel
theorem dX4_trimClip_79 : decode cX4_trimClip 79 = .ok (.istore 5, 2) := by decide +kernel
theorem dX4_trimClip_81 : decode cX4_trimClip 81 = .ok (.aload_n 0, 1) := by decide +kernel
theorem dX4_trimClip_82 : decode cX4_trimClip 82 = .ok (.getfield 24, 3) := by decide +kernel
theorem dX4_trimClip_85 : decode cX4_trimClip 85 = .ok (.iload_n 1, 1) := by decide +kernel
theorem dX4_trimClip_86 : decode cX4_trimClip 86 = .ok (.iconst 3, 1) := by decide +kernel
theorem dX4_trimClip_87 : decode cX4_trimClip 87 = .ok (.invokevirtual 118, 3) := by decide +kernel
theorem dX4_trimClip_90 : decode cX4_trimClip 90 = .ok (.iload_n 2, 1) := by decide +kernel
theorem dX4_trimClip_91 : decode cX4_trimClip 91 = .ok (.ifCond .ne 7, 3) := by decide +kernel
theorem dX4_trimClip_94 : decode cX4_trimClip 94 = .ok (.iload_n 3, 1) := by decide +kernel
theorem dX4_trimClip_95 : decode cX4_trimClip 95 = .ok (.goto 4, 3) := by decide +kernel
theorem dX4_trimClip_98 : decode cX4_trimClip 98 = .ok (.iconst 0, 1) := by decide +kernel
theorem dX4_trimClip_99 : decode cX4_trimClip 99 = .ok (.iadd, 1) := by decide +kernel
theorem dX4_trimClip_100 : decode cX4_trimClip 100 = .ok (.istore 6, 2) := by decide +kernel
theorem dX4_trimClip_102 : decode cX4_trimClip 102 = .ok (.aload_n 0, 1) := by decide +kernel
theorem dX4_trimClip_103 : decode cX4_trimClip 103 = .ok (.aload_n 0, 1) := by decide +kernel
theorem dX4_trimClip_104 : decode cX4_trimClip 104 = .ok (.getfield 24, 3) := by decide +kernel
theorem dX4_trimClip_107 : decode cX4_trimClip 107 = .ok (.iload_n 1, 1) := by decide +kernel
theorem dX4_trimClip_108 : decode cX4_trimClip 108 = .ok (.iconst 2, 1) := by decide +kernel
theorem dX4_trimClip_109 : decode cX4_trimClip 109 = .ok (.invokevirtual 118, 3) := by decide +kernel
theorem dX4_trimClip_112 : decode cX4_trimClip 112 = .ok (.iconst 1, 1) := by decide +kernel
theorem dX4_trimClip_113 : decode cX4_trimClip 113 = .ok (.invokevirtual 97, 3) := by decide +kernel
theorem dX4_trimClip_116 : decode cX4_trimClip 116 = .ok (.istore 7, 2) := by decide +kernel
theorem dX4_trimClip_118 : decode cX4_trimClip 118 = .ok (.iload 5, 2) := by decide +kernel
theorem dX4_trimClip_120 : decode cX4_trimClip 120 = .ok (.ifCond .lt 29, 3) := by decide +kernel
theorem dX4_trimClip_123 : decode cX4_trimClip 123 = .ok (.iload 5, 2) := by decide +kernel
theorem dX4_trimClip_125 : decode cX4_trimClip 125 = .ok (.sipush 600, 3) := by decide +kernel
theorem dX4_trimClip_128 : decode cX4_trimClip 128 = .ok (.iload 4, 2) := by decide +kernel
theorem dX4_trimClip_130 : decode cX4_trimClip 130 = .ok (.isub, 1) := by decide +kernel
theorem dX4_trimClip_131 : decode cX4_trimClip 131 = .ok (.if_icmp .gt 18, 3) := by decide +kernel
theorem dX4_trimClip_134 : decode cX4_trimClip 134 = .ok (.iload 6, 2) := by decide +kernel
theorem dX4_trimClip_136 : decode cX4_trimClip 136 = .ok (.ifCond .lt 13, 3) := by decide +kernel
theorem dX4_trimClip_139 : decode cX4_trimClip 139 = .ok (.iload 6, 2) := by decide +kernel
theorem dX4_trimClip_141 : decode cX4_trimClip 141 = .ok (.iload 7, 2) := by decide +kernel
theorem dX4_trimClip_143 : decode cX4_trimClip 143 = .ok (.iload 4, 2) := by decide +kernel
theorem dX4_trimClip_145 : decode cX4_trimClip 145 = .ok (.isub, 1) := by decide +kernel
theorem dX4_trimClip_146 : decode cX4_trimClip 146 = .ok (.if_icmp .le 6, 3) := by decide +kernel
theorem dX4_trimClip_149 : decode cX4_trimClip 149 = .ok (.bipush (-2), 2) := by decide +kernel
theorem dX4_trimClip_151 : decode cX4_trimClip 151 = .ok (.ireturn, 1) := by decide +kernel
theorem dX4_trimClip_152 : decode cX4_trimClip 152 = .ok (.aload_n 0, 1) := by decide +kernel
theorem dX4_trimClip_153 : decode cX4_trimClip 153 = .ok (.getfield 24, 3) := by decide +kernel
theorem dX4_trimClip_156 : decode cX4_trimClip 156 = .ok (.aload_n 0, 1) := by decide +kernel
theorem dX4_trimClip_157 : decode cX4_trimClip 157 = .ok (.getfield 24, 3) := by decide +kernel
theorem dX4_trimClip_160 : decode cX4_trimClip 160 = .ok (.iload_n 1, 1) := by decide +kernel
theorem dX4_trimClip_161 : decode cX4_trimClip 161 = .ok (.iconst 0, 1) := by decide +kernel
theorem dX4_trimClip_162 : decode cX4_trimClip 162 = .ok (.invokevirtual 118, 3) := by decide +kernel
theorem dX4_trimClip_165 : decode cX4_trimClip 165 = .ok (.iload 5, 2) := by decide +kernel
theorem dX4_trimClip_167 : decode cX4_trimClip 167 = .ok (.iload 4, 2) := by decide +kernel
theorem dX4_trimClip_169 : decode cX4_trimClip 169 = .ok (.iload_n 1, 1) := by decide +kernel
theorem dX4_trimClip_170 : decode cX4_trimClip 170 = .ok (.invokevirtual 100, 3) := by decide +kernel
theorem dX4_trimClip_173 : decode cX4_trimClip 173 = .ok (.ifCond .ne 6, 3) := by decide +kernel
theorem dX4_trimClip_176 : decode cX4_trimClip 176 = .ok (.bipush (-4), 2) := by decide +kernel
theorem dX4_trimClip_178 : decode cX4_trimClip 178 = .ok (.ireturn, 1) := by decide +kernel
theorem dX4_trimClip_179 : decode cX4_trimClip 179 = .ok (.aload_n 0, 1) := by decide +kernel
theorem dX4_trimClip_180 : decode cX4_trimClip 180 = .ok (.getfield 24, 3) := by decide +kernel
theorem dX4_trimClip_183 : decode cX4_trimClip 183 = .ok (.iload_n 1, 1) := by decide +kernel
theorem dX4_trimClip_184 : decode cX4_trimClip 184 = .ok (.iconst 1, 1) := by decide +kernel
theorem dX4_trimClip_185 : decode cX4_trimClip 185 = .ok (.iload 5, 2) := by decide +kernel
theorem dX4_trimClip_187 : decode cX4_trimClip 187 = .ok (.invokevirtual 111, 3) := by decide +kernel
theorem dX4_trimClip_190 : decode cX4_trimClip 190 = .ok (.aload_n 0, 1) := by decide +kernel
theorem dX4_trimClip_191 : decode cX4_trimClip 191 = .ok (.getfield 24, 3) := by decide +kernel
theorem dX4_trimClip_194 : decode cX4_trimClip 194 = .ok (.iload_n 1, 1) := by decide +kernel
theorem dX4_trimClip_195 : decode cX4_trimClip 195 = .ok (.iconst 3, 1) := by decide +kernel
theorem dX4_trimClip_196 : decode cX4_trimClip 196 = .ok (.iload 6, 2) := by decide +kernel
theorem dX4_trimClip_198 : decode cX4_trimClip 198 = .ok (.invokevirtual 111, 3) := by decide +kernel
theorem dX4_trimClip_201 : decode cX4_trimClip 201 = .ok (.aload_n 0, 1) := by decide +kernel
theorem dX4_trimClip_202 : decode cX4_trimClip 202 = .ok (.getfield 24, 3) := by decide +kernel
theorem dX4_trimClip_205 : decode cX4_trimClip 205 = .ok (.iload_n 1, 1) := by decide +kernel
theorem dX4_trimClip_206 : decode cX4_trimClip 206 = .ok (.iconst 4, 1) := by decide +kernel
theorem dX4_trimClip_207 : decode cX4_trimClip 207 = .ok (.iload 4, 2) := by decide +kernel
theorem dX4_trimClip_209 : decode cX4_trimClip 209 = .ok (.invokevirtual 111, 3) := by decide +kernel
theorem dX4_trimClip_212 : decode cX4_trimClip 212 = .ok (.aload_n 0, 1) := by decide +kernel
theorem dX4_trimClip_213 : decode cX4_trimClip 213 = .ok (.getfield 24, 3) := by decide +kernel
theorem dX4_trimClip_216 : decode cX4_trimClip 216 = .ok (.iload_n 1, 1) := by decide +kernel
theorem dX4_trimClip_217 : decode cX4_trimClip 217 = .ok (.invokevirtual 121, 3) := by decide +kernel
theorem dX4_trimClip_220 : decode cX4_trimClip 220 = .ok (.iload 4, 2) := by decide +kernel
theorem dX4_trimClip_222 : decode cX4_trimClip 222 = .ok (.ireturn, 1) := by decide +kernel
theorem dX4_cutFrames_0 : decode cX4_cutFrames 0 = .ok (.iload_n 1, 1) := by decide +kernel
theorem dX4_cutFrames_1 : decode cX4_cutFrames 1 = .ok (.ifCond .lt 15, 3) := by decide +kernel
theorem dX4_cutFrames_4 : decode cX4_cutFrames 4 = .ok (.iload_n 1, 1) := by decide +kernel
theorem dX4_cutFrames_5 : decode cX4_cutFrames 5 = .ok (.iload_n 2, 1) := by decide +kernel
theorem dX4_cutFrames_6 : decode cX4_cutFrames 6 = .ok (.if_icmp .ge 10, 3) := by decide +kernel
theorem dX4_cutFrames_9 : decode cX4_cutFrames 9 = .ok (.iload_n 2, 1) := by decide +kernel
theorem dX4_cutFrames_10 : decode cX4_cutFrames 10 = .ok (.sipush 600, 3) := by decide +kernel
theorem dX4_cutFrames_13 : decode cX4_cutFrames 13 = .ok (.if_icmp .le 6, 3) := by decide +kernel
theorem dX4_cutFrames_16 : decode cX4_cutFrames 16 = .ok (.bipush (-2), 2) := by decide +kernel
theorem dX4_cutFrames_18 : decode cX4_cutFrames 18 = .ok (.ireturn, 1) := by decide +kernel
theorem dX4_cutFrames_19 : decode cX4_cutFrames 19 = .ok (.aload_n 0, 1) := by decide +kernel
theorem dX4_cutFrames_20 : decode cX4_cutFrames 20 = .ok (.getfield 24, 3) := by decide +kernel
theorem dX4_cutFrames_23 : decode cX4_cutFrames 23 = .ok (.iload_n 1, 1) := by decide +kernel
theorem dX4_cutFrames_24 : decode cX4_cutFrames 24 = .ok (.iload_n 2, 1) := by decide +kernel
theorem dX4_cutFrames_25 : decode cX4_cutFrames 25 = .ok (.invokevirtual 124, 3) := by decide +kernel
theorem dX4_cutFrames_28 : decode cX4_cutFrames 28 = .ok (.bipush 24, 2) := by decide +kernel
theorem dX4_cutFrames_30 : decode cX4_cutFrames 30 = .ok (.if_icmp .le 6, 3) := by decide +kernel
theorem dX4_cutFrames_33 : decode cX4_cutFrames 33 = .ok (.bipush (-3), 2) := by decide +kernel
theorem dX4_cutFrames_35 : decode cX4_cutFrames 35 = .ok (.ireturn, 1) := by decide +kernel
theorem dX4_cutFrames_36 : decode cX4_cutFrames 36 = .ok (.aload_n 0, 1) := by decide +kernel
theorem dX4_cutFrames_37 : decode cX4_cutFrames 37 = .ok (.getfield 31, 3) := by decide +kernel
theorem dX4_cutFrames_40 : decode cX4_cutFrames 40 = .ok (.iload_n 1, 1) := by decide +kernel
theorem dX4_cutFrames_41 : decode cX4_cutFrames 41 = .ok (.iload_n 2, 1) := by decide +kernel
theorem dX4_cutFrames_42 : decode cX4_cutFrames 42 = .ok (.invokevirtual 127, 3) := by decide +kernel
theorem dX4_cutFrames_45 : decode cX4_cutFrames 45 = .ok (.aload_n 0, 1) := by decide +kernel
theorem dX4_cutFrames_46 : decode cX4_cutFrames 46 = .ok (.getfield 24, 3) := by decide +kernel
theorem dX4_cutFrames_49 : decode cX4_cutFrames 49 = .ok (.iload_n 1, 1) := by decide +kernel
theorem dX4_cutFrames_50 : decode cX4_cutFrames 50 = .ok (.invokevirtual 131, 3) := by decide +kernel
theorem dX4_cutFrames_53 : decode cX4_cutFrames 53 = .ok (.aload_n 0, 1) := by decide +kernel
theorem dX4_cutFrames_54 : decode cX4_cutFrames 54 = .ok (.getfield 24, 3) := by decide +kernel
theorem dX4_cutFrames_57 : decode cX4_cutFrames 57 = .ok (.iload_n 2, 1) := by decide +kernel
theorem dX4_cutFrames_58 : decode cX4_cutFrames 58 = .ok (.invokevirtual 131, 3) := by decide +kernel
theorem dX4_cutFrames_61 : decode cX4_cutFrames 61 = .ok (.aload_n 0, 1) := by decide +kernel
theorem dX4_cutFrames_62 : decode cX4_cutFrames 62 = .ok (.getfield 24, 3) := by decide +kernel
theorem dX4_cutFrames_65 : decode cX4_cutFrames 65 = .ok (.iload_n 1, 1) := by decide +kernel
theorem dX4_cutFrames_66 : decode cX4_cutFrames 66 = .ok (.iload_n 2, 1) := by decide +kernel
theorem dX4_cutFrames_67 : decode cX4_cutFrames 67 = .ok (.invokevirtual 134, 3) := by decide +kernel
theorem dX4_cutFrames_70 : decode cX4_cutFrames 70 = .ok (.ireturn, 1) := by decide +kernel
theorem dX4_insertFrames_0 : decode cX4_insertFrames 0 = .ok (.iload_n 1, 1) := by decide +kernel
theorem dX4_insertFrames_1 : decode cX4_insertFrames 1 = .ok (.invokestatic 136, 3) := by decide +kernel
theorem dX4_insertFrames_4 : decode cX4_insertFrames 4 = .ok (.ifCond .eq 24, 3) := by decide +kernel
theorem dX4_insertFrames_7 : decode cX4_insertFrames 7 = .ok (.iload_n 2, 1) := by decide +kernel
theorem dX4_insertFrames_8 : decode cX4_insertFrames 8 = .ok (.iconst 1, 1) := by decide +kernel
theorem dX4_insertFrames_9 : decode cX4_insertFrames 9 = .ok (.if_icmp .lt 19, 3) := by decide +kernel
theorem dX4_insertFrames_12 : decode cX4_insertFrames 12 = .ok (.iload_n 2, 1) := by decide +kernel
theorem dX4_insertFrames_13 : decode cX4_insertFrames 13 = .ok (.sipush 600, 3) := by decide +kernel
theorem dX4_insertFrames_16 : decode cX4_insertFrames 16 = .ok (.if_icmp .gt 12, 3) := by decide +kernel
theorem dX4_insertFrames_19 : decode cX4_insertFrames 19 = .ok (.aload_n 0, 1) := by decide +kernel
theorem dX4_insertFrames_20 : decode cX4_insertFrames 20 = .ok (.iload_n 1, 1) := by decide +kernel
theorem dX4_insertFrames_21 : decode cX4_insertFrames 21 = .ok (.iload_n 2, 1) := by decide +kernel
theorem dX4_insertFrames_22 : decode cX4_insertFrames 22 = .ok (.invokevirtual 139, 3) := by decide +kernel
theorem dX4_insertFrames_25 : decode cX4_insertFrames 25 = .ok (.ifCond .ne 6, 3) := by decide +kernel
theorem dX4_insertFrames_28 : decode cX4_insertFrames 28 = .ok (.bipush (-2), 2) := by decide +kernel
theorem dX4_insertFrames_30 : decode cX4_insertFrames 30 = .ok (.ireturn, 1) := by decide +kernel
theorem dX4_insertFrames_31 : decode cX4_insertFrames 31 = .ok (.aload_n 0, 1) := by decide +kernel
theorem dX4_insertFrames_32 : decode cX4_insertFrames 32 = .ok (.getfield 24, 3) := by decide +kernel
theorem dX4_insertFrames_35 : decode cX4_insertFrames 35 = .ok (.getfield 60, 3) := by decide +kernel
theorem dX4_insertFrames_38 : decode cX4_insertFrames 38 = .ok (.aload_n 0, 1) := by decide +kernel
theorem dX4_insertFrames_39 : decode cX4_insertFrames 39 = .ok (.getfield 24, 3) := by decide +kernel
theorem dX4_insertFrames_42 : decode cX4_insertFrames 42 = .ok (.iload_n 1, 1) := by decide +kernel
theorem dX4_insertFrames_43 : decode cX4_insertFrames 43 = .ok (.invokevirtual 143, 3) := by decide +kernel
theorem dX4_insertFrames_46 : decode cX4_insertFrames 46 = .ok (.iadd, 1) := by decide +kernel
theorem dX4_insertFrames_47 : decode cX4_insertFrames 47 = .ok (.bipush 24, 2) := by decide +kernel
theorem dX4_insertFrames_49 : decode cX4_insertFrames 49 = .ok (.if_icmp .le 6, 3) := by decide +kernel
theorem dX4_insertFrames_52 : decode cX4_insertFrames 52 = .ok (.bipush (-3), 2) := by decide +kernel
theorem dX4_insertFrames_54 : decode cX4_insertFrames 54 = .ok (.ireturn, 1) := by decide +kernel
theorem dX4_insertFrames_55 : decode cX4_insertFrames 55 = .ok (.aload_n 0, 1) := by decide +kernel
theorem dX4_insertFrames_56 : decode cX4_insertFrames 56 = .ok (.getfield 31, 3) := by decide +kernel
theorem dX4_insertFrames_59 : decode cX4_insertFrames 59 = .ok (.iload_n 1, 1) := by decide +kernel
theorem dX4_insertFrames_60 : decode cX4_insertFrames 60 = .ok (.iload_n 2, 1) := by decide +kernel
theorem dX4_insertFrames_61 : decode cX4_insertFrames 61 = .ok (.invokevirtual 147, 3) := by decide +kernel
theorem dX4_insertFrames_64 : decode cX4_insertFrames 64 = .ok (.aload_n 0, 1) := by decide +kernel
theorem dX4_insertFrames_65 : decode cX4_insertFrames 65 = .ok (.getfield 24, 3) := by decide +kernel
theorem dX4_insertFrames_68 : decode cX4_insertFrames 68 = .ok (.iload_n 1, 1) := by decide +kernel
theorem dX4_insertFrames_69 : decode cX4_insertFrames 69 = .ok (.invokevirtual 131, 3) := by decide +kernel
theorem dX4_insertFrames_72 : decode cX4_insertFrames 72 = .ok (.aload_n 0, 1) := by decide +kernel
theorem dX4_insertFrames_73 : decode cX4_insertFrames 73 = .ok (.getfield 24, 3) := by decide +kernel
theorem dX4_insertFrames_76 : decode cX4_insertFrames 76 = .ok (.iload_n 1, 1) := by decide +kernel
theorem dX4_insertFrames_77 : decode cX4_insertFrames 77 = .ok (.iload_n 2, 1) := by decide +kernel
theorem dX4_insertFrames_78 : decode cX4_insertFrames 78 = .ok (.invokevirtual 150, 3) := by decide +kernel
theorem dX4_insertFrames_81 : decode cX4_insertFrames 81 = .ok (.aload_n 0, 1) := by decide +kernel
theorem dX4_insertFrames_82 : decode cX4_insertFrames 82 = .ok (.getfield 24, 3) := by decide +kernel
theorem dX4_insertFrames_85 : decode cX4_insertFrames 85 = .ok (.getfield 60, 3) := by decide +kernel
theorem dX4_insertFrames_88 : decode cX4_insertFrames 88 = .ok (.ireturn, 1) := by decide +kernel
theorem dX4_canGoBack_0 : decode cX4_canGoBack 0 = .ok (.aload_n 0, 1) := by decide +kernel
theorem dX4_canGoBack_1 : decode cX4_canGoBack 1 = .ok (.getfield 24, 3) := by decide +kernel
theorem dX4_canGoBack_4 : decode cX4_canGoBack 4 = .ok (.invokevirtual 151, 3) := by decide +kernel
theorem dX4_canGoBack_7 : decode cX4_canGoBack 7 = .ok (.istore_n 3, 1) := by decide +kernel
theorem dX4_canGoBack_8 : decode cX4_canGoBack 8 = .ok (.iload_n 3, 1) := by decide +kernel
theorem dX4_canGoBack_9 : decode cX4_canGoBack 9 = .ok (.iload_n 1, 1) := by decide +kernel
theorem dX4_canGoBack_10 : decode cX4_canGoBack 10 = .ok (.if_icmp .le 14, 3) := by decide +kernel
theorem dX4_canGoBack_13 : decode cX4_canGoBack 13 = .ok (.iload_n 3, 1) := by decide +kernel
theorem dX4_canGoBack_14 : decode cX4_canGoBack 14 = .ok (.iload_n 2, 1) := by decide +kernel
theorem dX4_canGoBack_15 : decode cX4_canGoBack 15 = .ok (.iadd, 1) := by decide +kernel
theorem dX4_canGoBack_16 : decode cX4_canGoBack 16 = .ok (.sipush 600, 3) := by decide +kernel
theorem dX4_canGoBack_19 : decode cX4_canGoBack 19 = .ok (.if_icmp .le 5, 3) := by decide +kernel
theorem dX4_canGoBack_22 : decode cX4_canGoBack 22 = .ok (.iconst 0, 1) := by decide +kernel
theorem dX4_canGoBack_23 : decode cX4_canGoBack 23 = .ok (.ireturn, 1) := by decide +kernel
theorem dX4_canGoBack_24 : decode cX4_canGoBack 24 = .ok (.aload_n 0, 1) := by decide +kernel
theorem dX4_canGoBack_25 : decode cX4_canGoBack 25 = .ok (.getfield 31, 3) := by decide +kernel
theorem dX4_canGoBack_28 : decode cX4_canGoBack 28 = .ok (.getfield 63, 3) := by decide +kernel
theorem dX4_canGoBack_31 : decode cX4_canGoBack 31 = .ok (.iconst 1, 1) := by decide +kernel
theorem dX4_canGoBack_32 : decode cX4_canGoBack 32 = .ok (.isub, 1) := by decide +kernel
theorem dX4_canGoBack_33 : decode cX4_canGoBack 33 = .ok (.istore 4, 2) := by decide +kernel
theorem dX4_canGoBack_35 : decode cX4_canGoBack 35 = .ok (.iload 4, 2) := by decide +kernel
theorem dX4_canGoBack_37 : decode cX4_canGoBack 37 = .ok (.ifCond .lt 35, 3) := by decide +kernel
theorem dX4_canGoBack_40 : decode cX4_canGoBack 40 = .ok (.aload_n 0, 1) := by decide +kernel
theorem dX4_canGoBack_41 : decode cX4_canGoBack 41 = .ok (.getfield 31, 3) := by decide +kernel
theorem dX4_canGoBack_44 : decode cX4_canGoBack 44 = .ok (.getfield 50, 3) := by decide +kernel
theorem dX4_canGoBack_47 : decode cX4_canGoBack 47 = .ok (.iload 4, 2) := by decide +kernel
theorem dX4_canGoBack_49 : decode cX4_canGoBack 49 = .ok (.iaload, 1) := by decide +kernel
theorem dX4_canGoBack_50 : decode cX4_canGoBack 50 = .ok (.iload_n 1, 1) := by decide +kernel
theorem dX4_canGoBack_51 : decode cX4_canGoBack 51 = .ok (.if_icmp .lt 21, 3) := by decide +kernel
theorem dX4_canGoBack_54 : decode cX4_canGoBack 54 = .ok (.aload_n 0, 1) := by decide +kernel
theorem dX4_canGoBack_55 : decode cX4_canGoBack 55 = .ok (.getfield 31, 3) := by decide +kernel
theorem dX4_canGoBack_58 : decode cX4_canGoBack 58 = .ok (.getfield 50, 3) := by decide +kernel
theorem dX4_canGoBack_61 : decode cX4_canGoBack 61 = .ok (.iload 4, 2) := by decide +kernel
theorem dX4_canGoBack_63 : decode cX4_canGoBack 63 = .ok (.iaload, 1) := by decide +kernel
theorem dX4_canGoBack_64 : decode cX4_canGoBack 64 = .ok (.iload_n 2, 1) := by decide +kernel
theorem dX4_canGoBack_65 : decode cX4_canGoBack 65 = .ok (.iadd, 1) := by decide +kernel
theorem dX4_canGoBack_66 : decode cX4_canGoBack 66 = .ok (.sipush 600, 3) := by decide +kernel
theorem dX4_canGoBack_69 : decode cX4_canGoBack 69 = .ok (.if_icmp .ge 7, 3) := by decide +kernel
theorem dX4_canGoBack_72 : decode cX4_canGoBack 72 = .ok (.iconst 1, 1) := by decide +kernel
theorem dX4_canGoBack_73 : decode cX4_canGoBack 73 = .ok (.goto 4, 3) := by decide +kernel
theorem dX4_canGoBack_76 : decode cX4_canGoBack 76 = .ok (.iconst 0, 1) := by decide +kernel
theorem dX4_canGoBack_77 : decode cX4_canGoBack 77 = .ok (.ireturn, 1) := by decide +kernel
theorem dX4_framesOfChapter_0 : decode cX4_framesOfChapter 0 = .ok (.aload_n 0, 1) := by decide +kernel
theorem dX4_framesOfChapter_1 : decode cX4_framesOfChapter 1 = .ok (.getfield 31, 3) := by decide +kernel
theorem dX4_framesOfChapter_4 : decode cX4_framesOfChapter 4 = .ok (.iload_n 1, 1) := by decide +kernel
theorem dX4_framesOfChapter_5 : decode cX4_framesOfChapter 5 = .ok (.iconst 1, 1) := by decide +kernel
theorem dX4_framesOfChapter_6 : decode cX4_framesOfChapter 6 = .ok (.iadd, 1) := by decide +kernel
theorem dX4_framesOfChapter_7 : decode cX4_framesOfChapter 7 = .ok (.invokevirtual 155, 3) := by decide +kernel
theorem dX4_framesOfChapter_10 : decode cX4_framesOfChapter 10 = .ok (.ifCond .eq 17, 3) := by decide +kernel
theorem dX4_framesOfChapter_13 : decode cX4_framesOfChapter 13 = .ok (.aload_n 0, 1) := by decide +kernel
theorem dX4_framesOfChapter_14 : decode cX4_framesOfChapter 14 = .ok (.getfield 31, 3) := by decide +kernel
theorem dX4_framesOfChapter_17 : decode cX4_framesOfChapter 17 = .ok (.getfield 50, 3) := by decide +kernel
theorem dX4_framesOfChapter_20 : decode cX4_framesOfChapter 20 = .ok (.iload_n 1, 1) := by decide +kernel
theorem dX4_framesOfChapter_21 : decode cX4_framesOfChapter 21 = .ok (.iconst 1, 1) := by decide +kernel
theorem dX4_framesOfChapter_22 : decode cX4_framesOfChapter 22 = .ok (.iadd, 1) := by decide +kernel
theorem dX4_framesOfChapter_23 : decode cX4_framesOfChapter 23 = .ok (.iaload, 1) := by decide +kernel
theorem dX4_framesOfChapter_24 : decode cX4_framesOfChapter 24 = .ok (.goto 10, 3) := by decide +kernel
theorem dX4_framesOfChapter_27 : decode cX4_framesOfChapter 27 = .ok (.aload_n 0, 1) := by decide +kernel
theorem dX4_framesOfChapter_28 : decode cX4_framesOfChapter 28 = .ok (.getfield 24, 3) := by decide +kernel
theorem dX4_framesOfChapter_31 : decode cX4_framesOfChapter 31 = .ok (.invokevirtual 151, 3) := by decide +kernel
theorem dX4_framesOfChapter_34 : decode cX4_framesOfChapter 34 = .ok (.istore_n 2, 1) := by decide +kernel
theorem dX4_framesOfChapter_35 : decode cX4_framesOfChapter 35 = .ok (.iconst 0, 1) := by decide +kernel
theorem dX4_framesOfChapter_36 : decode cX4_framesOfChapter 36 = .ok (.iload_n 2, 1) := by decide +kernel
theorem dX4_framesOfChapter_37 : decode cX4_framesOfChapter 37 = .ok (.aload_n 0, 1) := by decide +kernel
theorem dX4_framesOfChapter_38 : decode cX4_framesOfChapter 38 = .ok (.getfield 31, 3) := by decide +kernel
theorem dX4_framesOfChapter_41 : decode cX4_framesOfChapter 41 = .ok (.getfield 50, 3) := by decide +kernel
theorem dX4_framesOfChapter_44 : decode cX4_framesOfChapter 44 = .ok (.iload_n 1, 1) := by decide +kernel
theorem dX4_framesOfChapter_45 : decode cX4_framesOfChapter 45 = .ok (.iaload, 1) := by decide +kernel
theorem dX4_framesOfChapter_46 : decode cX4_framesOfChapter 46 = .ok (.isub, 1) := by decide +kernel
theorem dX4_framesOfChapter_47 : decode cX4_framesOfChapter 47 = .ok (.invokestatic 156, 3) := by decide +kernel
theorem dX4_framesOfChapter_50 : decode cX4_framesOfChapter 50 = .ok (.ireturn, 1) := by decide +kernel
theorem dX4_events_0 : decode cX4_events 0 = .ok (.iconst 2, 1) := by decide +kernel
theorem dX4_events_1 : decode cX4_events 1 = .ok (.aload_n 0, 1) := by decide +kernel
theorem dX4_events_2 : decode cX4_events 2 = .ok (.getfield 24, 3) := by decide +kernel
theorem dX4_events_5 : decode cX4_events 5 = .ok (.getfield 60, 3) := by decide +kernel
theorem dX4_events_8 : decode cX4_events 8 = .ok (.imul, 1) := by decide +kernel
theorem dX4_events_9 : decode cX4_events 9 = .ok (.aload_n 0, 1) := by decide +kernel
theorem dX4_events_10 : decode cX4_events 10 = .ok (.getfield 31, 3) := by decide +kernel
theorem dX4_events_13 : decode cX4_events 13 = .ok (.getfield 63, 3) := by decide +kernel
theorem dX4_events_16 : decode cX4_events 16 = .ok (.iadd, 1) := by decide +kernel
theorem dX4_events_17 : decode cX4_events 17 = .ok (.ireturn, 1) := by decide +kernel
theorem dX4_eventKey_0 : decode cX4_eventKey 0 = .ok (.iload_n 0, 1) := by decide +kernel
theorem dX4_eventKey_1 : decode cX4_eventKey 1 = .ok (.iconst 3, 1) := by decide +kernel
theorem dX4_eventKey_2 : decode cX4_eventKey 2 = .ok (.imul, 1) := by decide +kernel
theorem dX4_eventKey_3 : decode cX4_eventKey 3 = .ok (.iload_n 1, 1) := by decide +kernel
theorem dX4_eventKey_4 : decode cX4_eventKey 4 = .ok (.iadd, 1) := by decide +kernel
theorem dX4_eventKey_5 : decode cX4_eventKey 5 = .ok (.iconst 4, 1) := by decide +kernel
theorem dX4_eventKey_6 : decode cX4_eventKey 6 = .ok (.imul, 1) := by decide +kernel
theorem dX4_eventKey_7 : decode cX4_eventKey 7 = .ok (.iload_n 2, 1) := by decide +kernel
theorem dX4_eventKey_8 : decode cX4_eventKey 8 = .ok (.iadd, 1) := by decide +kernel
theorem dX4_eventKey_9 : decode cX4_eventKey 9 = .ok (.ireturn, 1) := by decide +kernel
theorem dX4_nextEvent_0 : decode cX4_nextEvent 0 = .ok (.ldc 163, 2) := by decide +kernel
theorem dX4_nextEvent_2 : decode cX4_nextEvent 2 = .ok (.istore_n 2, 1) := by decide +kernel
theorem dX4_nextEvent_3 : decode cX4_nextEvent 3 = .ok (.iconst 0, 1) := by decide +kernel
theorem dX4_nextEvent_4 : decode cX4_nextEvent 4 = .ok (.istore_n 3, 1) := by decide +kernel
theorem dX4_nextEvent_5 : decode cX4_nextEvent 5 = .ok (.iload_n 3, 1) := by decide +kernel
theorem dX4_nextEvent_6 : decode cX4_nextEvent 6 = .ok (.aload_n 0, 1) := by decide +kernel
theorem dX4_nextEvent_7 : decode cX4_nextEvent 7 = .ok (.getfield 24, 3) := by decide +kernel
theorem dX4_nextEvent_10 : decode cX4_nextEvent 10 = .ok (.getfield 60, 3) := by decide +kernel
theorem dX4_nextEvent_13 : decode cX4_nextEvent 13 = .ok (.if_icmp .ge 61, 3) := by decide +kernel
theorem dX4_nextEvent_16 : decode cX4_nextEvent 16 = .ok (.aload_n 0, 1) := by decide +kernel
theorem dX4_nextEvent_17 : decode cX4_nextEvent 17 = .ok (.getfield 24, 3) := by decide +kernel
theorem dX4_nextEvent_20 : decode cX4_nextEvent 20 = .ok (.iload_n 3, 1) := by decide +kernel
theorem dX4_nextEvent_21 : decode cX4_nextEvent 21 = .ok (.iconst 0, 1) := by decide +kernel
theorem dX4_nextEvent_22 : decode cX4_nextEvent 22 = .ok (.invokevirtual 118, 3) := by decide +kernel
theorem dX4_nextEvent_25 : decode cX4_nextEvent 25 = .ok (.istore 4, 2) := by decide +kernel
theorem dX4_nextEvent_27 : decode cX4_nextEvent 27 = .ok (.iload_n 1, 1) := by decide +kernel
theorem dX4_nextEvent_28 : decode cX4_nextEvent 28 = .ok (.iload_n 2, 1) := by decide +kernel
theorem dX4_nextEvent_29 : decode cX4_nextEvent 29 = .ok (.aload_n 0, 1) := by decide +kernel
theorem dX4_nextEvent_30 : decode cX4_nextEvent 30 = .ok (.getfield 24, 3) := by decide +kernel
theorem dX4_nextEvent_33 : decode cX4_nextEvent 33 = .ok (.iload_n 3, 1) := by decide +kernel
theorem dX4_nextEvent_34 : decode cX4_nextEvent 34 = .ok (.invokevirtual 164, 3) := by decide +kernel
theorem dX4_nextEvent_37 : decode cX4_nextEvent 37 = .ok (.iconst 0, 1) := by decide +kernel
theorem dX4_nextEvent_38 : decode cX4_nextEvent 38 = .ok (.iload 4, 2) := by decide +kernel
theorem dX4_nextEvent_40 : decode cX4_nextEvent 40 = .ok (.invokestatic 167, 3) := by decide +kernel
theorem dX4_nextEvent_43 : decode cX4_nextEvent 43 = .ok (.invokestatic 171, 3) := by decide +kernel
theorem dX4_nextEvent_46 : decode cX4_nextEvent 46 = .ok (.istore_n 2, 1) := by decide +kernel
theorem dX4_nextEvent_47 : decode cX4_nextEvent 47 = .ok (.iload_n 1, 1) := by decide +kernel
theorem dX4_nextEvent_48 : decode cX4_nextEvent 48 = .ok (.iload_n 2, 1) := by decide +kernel
theorem dX4_nextEvent_49 : decode cX4_nextEvent 49 = .ok (.aload_n 0, 1) := by decide +kernel
theorem dX4_nextEvent_50 : decode cX4_nextEvent 50 = .ok (.getfield 24, 3) := by decide +kernel
theorem dX4_nextEvent_53 : decode cX4_nextEvent 53 = .ok (.iload_n 3, 1) := by decide +kernel
theorem dX4_nextEvent_54 : decode cX4_nextEvent 54 = .ok (.iconst 1, 1) := by decide +kernel
theorem dX4_nextEvent_55 : decode cX4_nextEvent 55 = .ok (.invokevirtual 118, 3) := by decide +kernel
theorem dX4_nextEvent_58 : decode cX4_nextEvent 58 = .ok (.iconst 2, 1) := by decide +kernel
theorem dX4_nextEvent_59 : decode cX4_nextEvent 59 = .ok (.iload 4, 2) := by decide +kernel
theorem dX4_nextEvent_61 : decode cX4_nextEvent 61 = .ok (.invokestatic 167, 3) := by decide +kernel
theorem dX4_nextEvent_64 : decode cX4_nextEvent 64 = .ok (.invokestatic 171, 3) := by decide +kernel
theorem dX4_nextEvent_67 : decode cX4_nextEvent 67 = .ok (.istore_n 2, 1) := by decide +kernel
theorem dX4_nextEvent_68 : decode cX4_nextEvent 68 = .ok (.iinc 3 1, 3) := by decide +kernel
theorem dX4_nextEvent_71 : decode cX4_nextEvent 71 = .ok (.goto (-66), 3) := by decide +kernel
theorem dX4_nextEvent_74 : decode cX4_nextEvent 74 = .ok (.iconst 0, 1) := by decide +kernel
theorem dX4_nextEvent_75 : decode cX4_nextEvent 75 = .ok (.istore_n 3, 1) := by decide +kernel
theorem dX4_nextEvent_76 : decode cX4_nextEvent 76 = .ok (.iload_n 3, 1) := by decide +kernel
theorem dX4_nextEvent_77 : decode cX4_nextEvent 77 = .ok (.aload_n 0, 1) := by decide +kernel
theorem dX4_nextEvent_78 : decode cX4_nextEvent 78 = .ok (.getfield 31, 3) := by decide +kernel
theorem dX4_nextEvent_81 : decode cX4_nextEvent 81 = .ok (.getfield 63, 3) := by decide +kernel
theorem dX4_nextEvent_84 : decode cX4_nextEvent 84 = .ok (.if_icmp .ge 29, 3) := by decide +kernel
theorem dX4_nextEvent_87 : decode cX4_nextEvent 87 = .ok (.iload_n 1, 1) := by decide +kernel
theorem dX4_nextEvent_88 : decode cX4_nextEvent 88 = .ok (.iload_n 2, 1) := by decide +kernel
theorem dX4_nextEvent_89 : decode cX4_nextEvent 89 = .ok (.aload_n 0, 1) := by decide +kernel
theorem dX4_nextEvent_90 : decode cX4_nextEvent 90 = .ok (.getfield 31, 3) := by decide +kernel
theorem dX4_nextEvent_93 : decode cX4_nextEvent 93 = .ok (.getfield 50, 3) := by decide +kernel
theorem dX4_nextEvent_96 : decode cX4_nextEvent 96 = .ok (.iload_n 3, 1) := by decide +kernel
theorem dX4_nextEvent_97 : decode cX4_nextEvent 97 = .ok (.iaload, 1) := by decide +kernel
theorem dX4_nextEvent_98 : decode cX4_nextEvent 98 = .ok (.iconst 1, 1) := by decide +kernel
theorem dX4_nextEvent_99 : decode cX4_nextEvent 99 = .ok (.iconst 0, 1) := by decide +kernel
theorem dX4_nextEvent_100 : decode cX4_nextEvent 100 = .ok (.invokestatic 167, 3) := by decide +kernel
theorem dX4_nextEvent_103 : decode cX4_nextEvent 103 = .ok (.invokestatic 171, 3) := by decide +kernel
theorem dX4_nextEvent_106 : decode cX4_nextEvent 106 = .ok (.istore_n 2, 1) := by decide +kernel
theorem dX4_nextEvent_107 : decode cX4_nextEvent 107 = .ok (.iinc 3 1, 3) := by decide +kernel
theorem dX4_nextEvent_110 : decode cX4_nextEvent 110 = .ok (.goto (-34), 3) := by decide +kernel
theorem dX4_nextEvent_113 : decode cX4_nextEvent 113 = .ok (.iload_n 2, 1) := by decide +kernel
theorem dX4_nextEvent_114 : decode cX4_nextEvent 114 = .ok (.ireturn, 1) := by decide +kernel
theorem dX4_nearer_0 : decode cX4_nearer 0 = .ok (.iload_n 2, 1) := by decide +kernel
theorem dX4_nearer_1 : decode cX4_nearer 1 = .ok (.iload_n 0, 1) := by decide +kernel
theorem dX4_nearer_2 : decode cX4_nearer 2 = .ok (.if_icmp .le 12, 3) := by decide +kernel
theorem dX4_nearer_5 : decode cX4_nearer 5 = .ok (.iload_n 2, 1) := by decide +kernel
theorem dX4_nearer_6 : decode cX4_nearer 6 = .ok (.iload_n 1, 1) := by decide +kernel
theorem dX4_nearer_7 : decode cX4_nearer 7 = .ok (.if_icmp .ge 7, 3) := by decide +kernel
theorem dX4_nearer_10 : decode cX4_nearer 10 = .ok (.iload_n 2, 1) := by decide +kernel
theorem dX4_nearer_11 : decode cX4_nearer 11 = .ok (.goto 4, 3) := by decide +kernel
theorem dX4_nearer_14 : decode cX4_nearer 14 = .ok (.iload_n 1, 1) := by decide +kernel
theorem dX4_nearer_15 : decode cX4_nearer 15 = .ok (.ireturn, 1) := by decide +kernel
theorem dX5_init_0 : decode cX5_init 0 = .ok (.aload_n 0, 1) := by decide +kernel
theorem dX5_init_1 : decode cX5_init 1 = .ok (.invokespecial 3, 3) := by decide +kernel
theorem dX5_init_4 : decode cX5_init 4 = .ok (.aload_n 0, 1) := by decide +kernel
theorem dX5_init_5 : decode cX5_init 5 = .ok (.bipush 60, 2) := by decide +kernel
theorem dX5_init_7 : decode cX5_init 7 = .ok (.newarray .int, 2) := by decide +kernel
theorem dX5_init_9 : decode cX5_init 9 = .ok (.putfield 9, 3) := by decide +kernel
theorem dX5_init_12 : decode cX5_init 12 = .ok (.aload_n 0, 1) := by decide +kernel
theorem dX5_init_13 : decode cX5_init 13 = .ok (.bipush 20, 2) := by decide +kernel
theorem dX5_init_15 : decode cX5_init 15 = .ok (.newarray .int, 2) := by decide +kernel
theorem dX5_init_17 : decode cX5_init 17 = .ok (.putfield 15, 3) := by decide +kernel
theorem dX5_init_20 : decode cX5_init 20 = .ok (.aload_n 0, 1) := by decide +kernel
theorem dX5_init_21 : decode cX5_init 21 = .ok (.bipush 20, 2) := by decide +kernel
theorem dX5_init_23 : decode cX5_init 23 = .ok (.newarray .int, 2) := by decide +kernel
theorem dX5_init_25 : decode cX5_init 25 = .ok (.putfield 18, 3) := by decide +kernel
theorem dX5_init_28 : decode cX5_init 28 = .ok (.aload_n 0, 1) := by decide +kernel
theorem dX5_init_29 : decode cX5_init 29 = .ok (.bipush 20, 2) := by decide +kernel
theorem dX5_init_31 : decode cX5_init 31 = .ok (.newarray .int, 2) := by decide +kernel
theorem dX5_init_33 : decode cX5_init 33 = .ok (.putfield 21, 3) := by decide +kernel
theorem dX5_init_36 : decode cX5_init 36 = .ok (.return_, 1) := by decide +kernel
theorem dX5_add_0 : decode cX5_add 0 = .ok (.aload_n 0, 1) := by decide +kernel
theorem dX5_add_1 : decode cX5_add 1 = .ok (.getfield 24, 3) := by decide +kernel
theorem dX5_add_4 : decode cX5_add 4 = .ok (.bipush 60, 2) := by decide +kernel
theorem dX5_add_6 : decode cX5_add 6 = .ok (.if_icmp .lt 6, 3) := by decide +kernel
theorem dX5_add_9 : decode cX5_add 9 = .ok (.bipush (-3), 2) := by decide +kernel
theorem dX5_add_11 : decode cX5_add 11 = .ok (.ireturn, 1) := by decide +kernel
theorem dX5_add_12 : decode cX5_add 12 = .ok (.aload_n 0, 1) := by decide +kernel
theorem dX5_add_13 : decode cX5_add 13 = .ok (.getfield 9, 3) := by decide +kernel
theorem dX5_add_16 : decode cX5_add 16 = .ok (.aload_n 0, 1) := by decide +kernel
theorem dX5_add_17 : decode cX5_add 17 = .ok (.getfield 24, 3) := by decide +kernel
theorem dX5_add_20 : decode cX5_add 20 = .ok (.iload_n 1, 1) := by decide +kernel
theorem dX5_add_21 : decode cX5_add 21 = .ok (.iastore, 1) := by decide +kernel
theorem dX5_add_22 : decode cX5_add 22 = .ok (.aload_n 0, 1) := by decide +kernel
theorem dX5_add_23 : decode cX5_add 23 = .ok (.dup, 1) := by decide +kernel
theorem dX5_add_24 : decode cX5_add 24 = .ok (.getfield 24, 3) := by decide +kernel
theorem dX5_add_27 : decode cX5_add 27 = .ok (.iconst 1, 1) := by decide +kernel
theorem dX5_add_28 : decode cX5_add 28 = .ok (.iadd, 1) := by decide +kernel
theorem dX5_add_29 : decode cX5_add 29 = .ok (.putfield 24, 3) := by decide +kernel
theorem dX5_add_32 : decode cX5_add 32 = .ok (.aload_n 0, 1) := by decide +kernel
theorem dX5_add_33 : decode cX5_add 33 = .ok (.getfield 24, 3) := by decide +kernel
theorem dX5_add_36 : decode cX5_add 36 = .ok (.ireturn, 1) := by decide +kernel
theorem dX5_read_0 : decode cX5_read 0 = .ok (.aload_n 0, 1) := by decide +kernel
theorem dX5_read_1 : decode cX5_read 1 = .ok (.iconst 0, 1) := by decide +kernel
theorem dX5_read_2 : decode cX5_read 2 = .ok (.putfield 28, 3) := by decide +kernel
theorem dX5_read_5 : decode cX5_read 5 = .ok (.aload_n 0, 1) := by decide +kernel
theorem dX5_read_6 : decode cX5_read 6 = .ok (.iconst 0, 1) := by decide +kernel
theorem dX5_read_7 : decode cX5_read 7 = .ok (.putfield 31, 3) := by decide +kernel
theorem dX5_read_10 : decode cX5_read 10 = .ok (.iconst 0, 1) := by decide +kernel
theorem dX5_read_11 : decode cX5_read 11 = .ok (.istore_n 1, 1) := by decide +kernel
theorem dX5_read_12 : decode cX5_read 12 = .ok (.iload_n 1, 1) := by decide +kernel
theorem dX5_read_13 : decode cX5_read 13 = .ok (.bipush 20, 2) := by decide +kernel
theorem dX5_read_15 : decode cX5_read 15 = .ok (.if_icmp .ge 58, 3) := by decide +kernel
theorem dX5_read_18 : decode cX5_read 18 = .ok (.aload_n 0, 1) := by decide +kernel
theorem dX5_read_19 : decode cX5_read 19 = .ok (.invokevirtual 34, 3) := by decide +kernel
theorem dX5_read_22 : decode cX5_read 22 = .ok (.ifCond .ne 8, 3) := by decide +kernel
theorem dX5_read_25 : decode cX5_read 25 = .ok (.aload_n 0, 1) := by decide +kernel
theorem dX5_read_26 : decode cX5_read 26 = .ok (.getfield 31, 3) := by decide +kernel
theorem dX5_read_29 : decode cX5_read 29 = .ok (.ireturn, 1) := by decide +kernel
theorem dX5_read_30 : decode cX5_read 30 = .ok (.aload_n 0, 1) := by decide +kernel
theorem dX5_read_31 : decode cX5_read 31 = .ok (.getfield 31, 3) := by decide +kernel
theorem dX5_read_34 : decode cX5_read 34 = .ok (.aload_n 0, 1) := by decide +kernel
theorem dX5_read_35 : decode cX5_read 35 = .ok (.getfield 24, 3) := by decide +kernel
theorem dX5_read_38 : decode cX5_read 38 = .ok (.if_icmp .ne 5, 3) := by decide +kernel
theorem dX5_read_41 : decode cX5_read 41 = .ok (.iconst (-1), 1) := by decide +kernel
theorem dX5_read_42 : decode cX5_read 42 = .ok (.ireturn, 1) := by decide +kernel
theorem dX5_read_43 : decode cX5_read 43 = .ok (.aload_n 0, 1) := by decide +kernel
theorem dX5_read_44 : decode cX5_read 44 = .ok (.invokevirtual 38, 3) := by decide +kernel
theorem dX5_read_47 : decode cX5_read 47 = .ok (.bipush 59, 2) := by decide +kernel
theorem dX5_read_49 : decode cX5_read 49 = .ok (.if_icmp .eq 8, 3) := by decide +kernel
theorem dX5_read_52 : decode cX5_read 52 = .ok (.aload_n 0, 1) := by decide +kernel
theorem dX5_read_53 : decode cX5_read 53 = .ok (.getfield 31, 3) := by decide +kernel
theorem dX5_read_56 : decode cX5_read 56 = .ok (.ireturn, 1) := by decide +kernel
theorem dX5_read_57 : decode cX5_read 57 = .ok (.aload_n 0, 1) := by decide +kernel
theorem dX5_read_58 : decode cX5_read 58 = .ok (.dup, 1) := by decide +kernel
theorem dX5_read_59 : decode cX5_read 59 = .ok (.getfield 31, 3) := by decide +kernel
theorem dX5_read_62 : decode cX5_read 62 = .ok (.iconst 1, 1) := by decide +kernel
theorem dX5_read_63 : decode cX5_read 63 = .ok (.iadd, 1) := by decide +kernel
theorem dX5_read_64 : decode cX5_read 64 = .ok (.putfield 31, 3) := by decide +kernel
theorem dX5_read_67 : decode cX5_read 67 = .ok (.iinc 1 1, 3) := by decide +kernel
theorem dX5_read_70 : decode cX5_read 70 = .ok (.goto (-58), 3) := by decide +kernel
theorem dX5_read_73 : decode cX5_read 73 = .ok (.aload_n 0, 1) := by decide +kernel
theorem dX5_read_74 : decode cX5_read 74 = .ok (.getfield 31, 3) := by decide +kernel
theorem dX5_read_77 : decode cX5_read 77 = .ok (.ireturn, 1) := by decide +kernel
theorem dX5_here_0 : decode cX5_here 0 = .ok (.aload_n 0, 1) := by decide +kernel
theorem dX5_here_1 : decode cX5_here 1 = .ok (.getfield 31, 3) := by decide +kernel
theorem dX5_here_4 : decode cX5_here 4 = .ok (.aload_n 0, 1) := by decide +kernel
theorem dX5_here_5 : decode cX5_here 5 = .ok (.getfield 24, 3) := by decide +kernel
theorem dX5_here_8 : decode cX5_here 8 = .ok (.if_icmp .ge 15, 3) := by decide +kernel
theorem dX5_here_11 : decode cX5_here 11 = .ok (.aload_n 0, 1) := by decide +kernel
theorem dX5_here_12 : decode cX5_here 12 = .ok (.getfield 9, 3) := by decide +kernel
theorem dX5_here_15 : decode cX5_here 15 = .ok (.aload_n 0, 1) := by decide +kernel
theorem dX5_here_16 : decode cX5_here 16 = .ok (.getfield 31, 3) := by decide +kernel
theorem dX5_here_19 : decode cX5_here 19 = .ok (.iaload, 1) := by decide +kernel
theorem dX5_here_20 : decode cX5_here 20 = .ok (.goto 4, 3) := by decide +kernel
theorem dX5_here_23 : decode cX5_here 23 = .ok (.iconst (-1), 1) := by decide +kernel
theorem dX5_here_24 : decode cX5_here 24 = .ok (.ireturn, 1) := by decide +kernel
theorem dX5_readCommand_0 : decode cX5_readCommand 0 = .ok (.aload_n 0, 1) := by decide +kernel
theorem dX5_readCommand_1 : decode cX5_readCommand 1 = .ok (.invokevirtual 38, 3) := by decide +kernel
theorem dX5_readCommand_4 : decode cX5_readCommand 4 = .ok (.istore_n 1, 1) := by decide +kernel
theorem dX5_readCommand_5 : decode cX5_readCommand 5 = .ok (.iload_n 1, 1) := by decide +kernel
theorem dX5_readCommand_6 : decode cX5_readCommand 6 = .ok (.invokestatic 42, 3) := by decide +kernel
theorem dX5_readCommand_9 : decode cX5_readCommand 9 = .ok (.istore_n 2, 1) := by decide +kernel
theorem dX5_readCommand_10 : decode cX5_readCommand 10 = .ok (.iload_n 2, 1) := by decide +kernel
theorem dX5_readCommand_11 : decode cX5_readCommand 11 = .ok (.iconst (-1), 1) := by decide +kernel
theorem dX5_readCommand_12 : decode cX5_readCommand 12 = .ok (.if_icmp .ne 5, 3) := by decide +kernel
theorem dX5_readCommand_15 : decode cX5_readCommand 15 = .ok (.iconst 0, 1) := by decide +kernel
theorem dX5_readCommand_16 : decode cX5_readCommand 16 = .ok (.ireturn, 1) := by decide +kernel
theorem dX5_readCommand_17 : decode cX5_readCommand 17 = .ok (.aload_n 0, 1) := by decide +kernel
theorem dX5_readCommand_18 : decode cX5_readCommand 18 = .ok (.dup, 1) := by decide +kernel
theorem dX5_readCommand_19 : decode cX5_readCommand 19 = .ok (.getfield 31, 3) := by decide +kernel
theorem dX5_readCommand_22 : decode cX5_readCommand 22 = .ok (.iconst 1, 1) := by decide +kernel
theorem dX5_readCommand_23 : decode cX5_readCommand 23 = .ok (.iadd, 1) := by decide +kernel
theorem dX5_readCommand_24 : decode cX5_readCommand 24 = .ok (.putfield 31, 3) := by decide +kernel
theorem dX5_readCommand_27 : decode cX5_readCommand 27 = .ok (.aload_n 0, 1) := by decide +kernel
theorem dX5_readCommand_28 : decode cX5_readCommand 28 = .ok (.getfield 15, 3) := by decide +kernel
theorem dX5_readCommand_31 : decode cX5_readCommand 31 = .ok (.aload_n 0, 1) := by decide +kernel
theorem dX5_readCommand_32 : decode cX5_readCommand 32 = .ok (.getfield 28, 3) := by decide +kernel
theorem dX5_readCommand_35 : decode cX5_readCommand 35 = .ok (.iload_n 1, 1) := by decide +kernel
theorem dX5_readCommand_36 : decode cX5_readCommand 36 = .ok (.iastore, 1) := by decide +kernel
theorem dX5_readCommand_37 : decode cX5_readCommand 37 = .ok (.aload_n 0, 1) := by decide +kernel
theorem dX5_readCommand_38 : decode cX5_readCommand 38 = .ok (.getfield 18, 3) := by decide +kernel
theorem dX5_readCommand_41 : decode cX5_readCommand 41 = .ok (.aload_n 0, 1) := by decide +kernel
theorem dX5_readCommand_42 : decode cX5_readCommand 42 = .ok (.getfield 28, 3) := by decide +kernel
theorem dX5_readCommand_45 : decode cX5_readCommand 45 = .ok (.aload_n 0, 1) := by decide +kernel
theorem dX5_readCommand_46 : decode cX5_readCommand 46 = .ok (.invokevirtual 46, 3) := by decide +kernel
theorem dX5_readCommand_49 : decode cX5_readCommand 49 = .ok (.iastore, 1) := by decide +kernel
theorem dX5_readCommand_50 : decode cX5_readCommand 50 = .ok (.aload_n 0, 1) := by decide +kernel
theorem dX5_readCommand_51 : decode cX5_readCommand 51 = .ok (.getfield 21, 3) := by decide +kernel
theorem dX5_readCommand_54 : decode cX5_readCommand 54 = .ok (.aload_n 0, 1) := by decide +kernel
theorem dX5_readCommand_55 : decode cX5_readCommand 55 = .ok (.getfield 28, 3) := by decide +kernel
theorem dX5_readCommand_58 : decode cX5_readCommand 58 = .ok (.iconst 0, 1) := by decide +kernel
theorem dX5_readCommand_59 : decode cX5_readCommand 59 = .ok (.iastore, 1) := by decide +kernel
theorem dX5_readCommand_60 : decode cX5_readCommand 60 = .ok (.aload_n 0, 1) := by decide +kernel
theorem dX5_readCommand_61 : decode cX5_readCommand 61 = .ok (.getfield 18, 3) := by decide +kernel
theorem dX5_readCommand_64 : decode cX5_readCommand 64 = .ok (.aload_n 0, 1) := by decide +kernel
theorem dX5_readCommand_65 : decode cX5_readCommand 65 = .ok (.getfield 28, 3) := by decide +kernel
theorem dX5_readCommand_68 : decode cX5_readCommand 68 = .ok (.iaload, 1) := by decide +kernel
theorem dX5_readCommand_69 : decode cX5_readCommand 69 = .ok (.ifCond .ge 5, 3) := by decide +kernel
theorem dX5_readCommand_72 : decode cX5_readCommand 72 = .ok (.iconst 0, 1) := by decide +kernel
theorem dX5_readCommand_73 : decode cX5_readCommand 73 = .ok (.ireturn, 1) := by decide +kernel
theorem dX5_readCommand_74 : decode cX5_readCommand 74 = .ok (.iload_n 2, 1) := by decide +kernel
theorem dX5_readCommand_75 : decode cX5_readCommand 75 = .ok (.bipush (-6), 2) := by decide +kernel
theorem dX5_readCommand_77 : decode cX5_readCommand 77 = .ok (.if_icmp .eq 36, 3) := by decide +kernel
theorem dX5_readCommand_80 : decode cX5_readCommand 80 = .ok (.aload_n 0, 1) := by decide +kernel
theorem dX5_readCommand_81 : decode cX5_readCommand 81 = .ok (.invokevirtual 38, 3) := by decide +kernel
theorem dX5_readCommand_84 : decode cX5_readCommand 84 = .ok (.iload_n 2, 1) := by decide +kernel
theorem dX5_readCommand_85 : decode cX5_readCommand 85 = .ok (.if_icmp .eq 5, 3) := by decide +kernel
theorem dX5_readCommand_88 : decode cX5_readCommand 88 = .ok (.iconst 0, 1) := by decide +kernel
theorem dX5_readCommand_89 : decode cX5_readCommand 89 = .ok (.ireturn, 1) := by decide +kernel
theorem dX5_readCommand_90 : decode cX5_readCommand 90 = .ok (.aload_n 0, 1) := by decide +kernel
theorem dX5_readCommand_91 : decode cX5_readCommand 91 = .ok (.dup, 1) := by decide +kernel
theorem dX5_readCommand_92 : decode cX5_readCommand 92 = .ok (.getfield 31, 3) := by decide +kernel
theorem dX5_readCommand_95 : decode cX5_readCommand 95 = .ok (.iconst 1, 1) := by decide +kernel
theorem dX5_readCommand_96 : decode cX5_readCommand 96 = .ok (.iadd, 1) := by decide +kernel
theorem dX5_readCommand_97 : decode cX5_readCommand 97 = .ok (.putfield 31, 3) := by decide +kernel
theorem dX5_readCommand_100 : decode cX5_readCommand 100 = .ok (.aload_n 0, 1) := by decide +kernel
theorem dX5_readCommand_101 : decode cX5_readCommand 101 = .ok (.getfield 21, 3) := by decide +kernel
theorem dX5_readCommand_104 : decode cX5_readCommand 104 = .ok (.aload_n 0, 1) := by decide +kernel
theorem dX5_readCommand_105 : decode cX5_readCommand 105 = .ok (.getfield 28, 3) := by decide +kernel
theorem dX5_readCommand_108 : decode cX5_readCommand 108 = .ok (.aload_n 0, 1) := by decide +kernel
theorem dX5_readCommand_109 : decode cX5_readCommand 109 = .ok (.invokevirtual 46, 3) := by decide +kernel
theorem dX5_readCommand_112 : decode cX5_readCommand 112 = .ok (.iastore, 1) := by decide +kernel
theorem dX5_readCommand_113 : decode cX5_readCommand 113 = .ok (.aload_n 0, 1) := by decide +kernel
theorem dX5_readCommand_114 : decode cX5_readCommand 114 = .ok (.dup, 1) := by decide +kernel
theorem dX5_readCommand_115 : decode cX5_readCommand 115 = .ok (.getfield 28, 3) := by decide +kernel
theorem dX5_readCommand_118 : decode cX5_readCommand 118 = .ok (.iconst 1, 1) := by decide +kernel
theorem dX5_readCommand_119 : decode cX5_readCommand 119 = .ok (.iadd, 1) := by decide +kernel
theorem dX5_readCommand_120 : decode cX5_readCommand 120 = .ok (.putfield 28, 3) := by decide +kernel
theorem dX5_readCommand_123 : decode cX5_readCommand 123 = .ok (.aload_n 0, 1) := by decide +kernel
theorem dX5_readCommand_124 : decode cX5_readCommand 124 = .ok (.getfield 21, 3) := by decide +kernel
theorem dX5_readCommand_127 : decode cX5_readCommand 127 = .ok (.aload_n 0, 1) := by decide +kernel
theorem dX5_readCommand_128 : decode cX5_readCommand 128 = .ok (.getfield 28, 3) := by decide +kernel
theorem dX5_readCommand_131 : decode cX5_readCommand 131 = .ok (.iconst 1, 1) := by decide +kernel
theorem dX5_readCommand_132 : decode cX5_readCommand 132 = .ok (.isub, 1) := by decide +kernel
theorem dX5_readCommand_133 : decode cX5_readCommand 133 = .ok (.iaload, 1) := by decide +kernel
theorem dX5_readCommand_134 : decode cX5_readCommand 134 = .ok (.ifCond .lt 7, 3) := by decide +kernel
theorem dX5_readCommand_137 : decode cX5_readCommand 137 = .ok (.iconst 1, 1) := by decide +kernel
theorem dX5_readCommand_138 : decode cX5_readCommand 138 = .ok (.goto 4, 3) := by decide +kernel
theorem dX5_readCommand_141 : decode cX5_readCommand 141 = .ok (.iconst 0, 1) := by decide +kernel
theorem dX5_readCommand_142 : decode cX5_readCommand 142 = .ok (.ireturn, 1) := by decide +kernel
theorem dX5_signOf_0 : decode cX5_signOf 0 = .ok (.iload_n 0, 1) := by decide +kernel
theorem dX5_signOf_1 : decode cX5_signOf 1 = .ok (.lookupswitch 74 #[(99, 71), (100, 65), (105, 62), (109, 68), (115, 68), (120, 59)], 59) := by decide +kernel
theorem dX5_signOf_60 : decode cX5_signOf 60 = .ok (.bipush 45, 2) := by decide +kernel
theorem dX5_signOf_62 : decode cX5_signOf 62 = .ok (.ireturn, 1) := by decide +kernel
theorem dX5_signOf_63 : decode cX5_signOf 63 = .ok (.bipush 43, 2) := by decide +kernel
theorem dX5_signOf_65 : decode cX5_signOf 65 = .ok (.ireturn, 1) := by decide +kernel
theorem dX5_signOf_66 : decode cX5_signOf 66 = .ok (.bipush (-6), 2) := by decide +kernel
theorem dX5_signOf_68 : decode cX5_signOf 68 = .ok (.ireturn, 1) := by decide +kernel
theorem dX5_signOf_69 : decode cX5_signOf 69 = .ok (.bipush 64, 2) := by decide +kernel
theorem dX5_signOf_71 : decode cX5_signOf 71 = .ok (.ireturn, 1) := by decide +kernel
theorem dX5_signOf_72 : decode cX5_signOf 72 = .ok (.bipush 61, 2) := by decide +kernel
theorem dX5_signOf_74 : decode cX5_signOf 74 = .ok (.ireturn, 1) := by decide +kernel
theorem dX5_signOf_75 : decode cX5_signOf 75 = .ok (.iconst (-1), 1) := by decide +kernel
theorem dX5_signOf_76 : decode cX5_signOf 76 = .ok (.ireturn, 1) := by decide +kernel
theorem dX5_readNumber_0 : decode cX5_readNumber 0 = .ok (.iconst 0, 1) := by decide +kernel
theorem dX5_readNumber_1 : decode cX5_readNumber 1 = .ok (.istore_n 1, 1) := by decide +kernel
theorem dX5_readNumber_2 : decode cX5_readNumber 2 = .ok (.iconst 0, 1) := by decide +kernel
theorem dX5_readNumber_3 : decode cX5_readNumber 3 = .ok (.istore_n 2, 1) := by decide +kernel
theorem dX5_readNumber_4 : decode cX5_readNumber 4 = .ok (.iload_n 2, 1) := by decide +kernel
theorem dX5_readNumber_5 : decode cX5_readNumber 5 = .ok (.iconst 3, 1) := by decide +kernel
theorem dX5_readNumber_6 : decode cX5_readNumber 6 = .ok (.if_icmp .ge 50, 3) := by decide +kernel
theorem dX5_readNumber_9 : decode cX5_readNumber 9 = .ok (.aload_n 0, 1) := by decide +kernel
theorem dX5_readNumber_10 : decode cX5_readNumber 10 = .ok (.invokevirtual 38, 3) := by decide +kernel
theorem dX5_readNumber_13 : decode cX5_readNumber 13 = .ok (.bipush 48, 2) := by decide +kernel
theorem dX5_readNumber_15 : decode cX5_readNumber 15 = .ok (.if_icmp .lt 41, 3) := by decide +kernel
theorem dX5_readNumber_18 : decode cX5_readNumber 18 = .ok (.aload_n 0, 1) := by decide +kernel
theorem dX5_readNumber_19 : decode cX5_readNumber 19 = .ok (.invokevirtual 38, 3) := by decide +kernel
theorem dX5_readNumber_22 : decode cX5_readNumber 22 = .ok (.bipush 57, 2) := by decide +kernel
theorem dX5_readNumber_24 : decode cX5_readNumber 24 = .ok (.if_icmp .gt 32, 3) := by decide +kernel
theorem dX5_readNumber_27 : decode cX5_readNumber 27 = .ok (.iload_n 1, 1) := by decide +kernel
theorem dX5_readNumber_28 : decode cX5_readNumber 28 = .ok (.bipush 10, 2) := by decide +kernel
theorem dX5_readNumber_30 : decode cX5_readNumber 30 = .ok (.imul, 1) := by decide +kernel
theorem dX5_readNumber_31 : decode cX5_readNumber 31 = .ok (.aload_n 0, 1) := by decide +kernel
theorem dX5_readNumber_32 : decode cX5_readNumber 32 = .ok (.invokevirtual 38, 3) := by decide +kernel
theorem dX5_readNumber_35 : decode cX5_readNumber 35 = .ok (.iadd, 1) := by decide +kernel
theorem dX5_readNumber_36 : decode cX5_readNumber 36 = .ok (.bipush 48, 2) := by decide +kernel
theorem dX5_readNumber_38 : decode cX5_readNumber 38 = .ok (.isub, 1) := by decide +kernel
theorem dX5_readNumber_39 : decode cX5_readNumber 39 = .ok (.istore_n 1, 1) := by decide +kernel
theorem dX5_readNumber_40 : decode cX5_readNumber 40 = .ok (.iinc 2 1, 3) := by decide +kernel
theorem dX5_readNumber_43 : decode cX5_readNumber 43 = .ok (.aload_n 0, 1) := by decide +kernel
theorem dX5_readNumber_44 : decode cX5_readNumber 44 = .ok (.dup, 1) := by decide +kernel
theorem dX5_readNumber_45 : decode cX5_readNumber 45 = .ok (.getfield 31, 3) := by decide +kernel
theorem dX5_readNumber_48 : decode cX5_readNumber 48 = .ok (.iconst 1, 1) := by decide +kernel
theorem dX5_readNumber_49 : decode cX5_readNumber 49 = .ok (.iadd, 1) := by decide +kernel
theorem dX5_readNumber_50 : decode cX5_readNumber 50 = .ok (.putfield 31, 3) := by decide +kernel
theorem dX5_readNumber_53 : decode cX5_readNumber 53 = .ok (.goto (-49), 3) := by decide +kernel
theorem dX5_readNumber_56 : decode cX5_readNumber 56 = .ok (.iload_n 2, 1) := by decide +kernel
theorem dX5_readNumber_57 : decode cX5_readNumber 57 = .ok (.ifCond .ne 7, 3) := by decide +kernel
theorem dX5_readNumber_60 : decode cX5_readNumber 60 = .ok (.iconst (-1), 1) := by decide +kernel
theorem dX5_readNumber_61 : decode cX5_readNumber 61 = .ok (.goto 4, 3) := by decide +kernel
theorem dX5_readNumber_64 : decode cX5_readNumber 64 = .ok (.iload_n 1, 1) := by decide +kernel
theorem dX5_readNumber_65 : decode cX5_readNumber 65 = .ok (.ireturn, 1) := by decide +kernel
theorem dX6_init_0 : decode cX6_init 0 = .ok (.aload_n 0, 1) := by decide +kernel
theorem dX6_init_1 : decode cX6_init 1 = .ok (.invokespecial 3, 3) := by decide +kernel
theorem dX6_init_4 : decode cX6_init 4 = .ok (.aload_n 0, 1) := by decide +kernel
theorem dX6_init_5 : decode cX6_init 5 = .ok (.sipush 300, 3) := by decide +kernel
theorem dX6_init_8 : decode cX6_init 8 = .ok (.newarray .int, 2) := by decide +kernel
theorem dX6_init_10 : decode cX6_init 10 = .ok (.putfield 9, 3) := by decide +kernel
theorem dX6_init_13 : decode cX6_init 13 = .ok (.aload_n 0, 1) := by decide +kernel
theorem dX6_init_14 : decode cX6_init 14 = .ok (.sipush 300, 3) := by decide +kernel
theorem dX6_init_17 : decode cX6_init 17 = .ok (.newarray .int, 2) := by decide +kernel
theorem dX6_init_19 : decode cX6_init 19 = .ok (.putfield 15, 3) := by decide +kernel
theorem dX6_init_22 : decode cX6_init 22 = .ok (.aload_n 0, 1) := by decide +kernel
theorem dX6_init_23 : decode cX6_init 23 = .ok (.aload_n 1, 1) := by decide +kernel
theorem dX6_init_24 : decode cX6_init 24 = .ok (.putfield 18, 3) := by decide +kernel
theorem dX6_init_27 : decode cX6_init 27 = .ok (.aload_n 0, 1) := by decide +kernel
theorem dX6_init_28 : decode cX6_init 28 = .ok (.aload_n 2, 1) := by decide +kernel
theorem dX6_init_29 : decode cX6_init 29 = .ok (.putfield 22, 3) := by decide +kernel
theorem dX6_init_32 : decode cX6_init 32 = .ok (.return_, 1) := by decide +kernel
theorem dX6_find_0 : decode cX6_find 0 = .ok (.aload_n 0, 1) := by decide +kernel
theorem dX6_find_1 : decode cX6_find 1 = .ok (.getfield 18, 3) := by decide +kernel
theorem dX6_find_4 : decode cX6_find 4 = .ok (.getfield 26, 3) := by decide +kernel
theorem dX6_find_7 : decode cX6_find 7 = .ok (.invokevirtual 32, 3) := by decide +kernel
theorem dX6_find_10 : decode cX6_find 10 = .ok (.istore_n 3, 1) := by decide +kernel
theorem dX6_find_11 : decode cX6_find 11 = .ok (.iconst 0, 1) := by decide +kernel
theorem dX6_find_12 : decode cX6_find 12 = .ok (.istore 4, 2) := by decide +kernel
theorem dX6_find_14 : decode cX6_find 14 = .ok (.aload_n 0, 1) := by decide +kernel
theorem dX6_find_15 : decode cX6_find 15 = .ok (.iconst 0, 1) := by decide +kernel
theorem dX6_find_16 : decode cX6_find 16 = .ok (.putfield 38, 3) := by decide +kernel
theorem dX6_find_19 : decode cX6_find 19 = .ok (.iconst 0, 1) := by decide +kernel
theorem dX6_find_20 : decode cX6_find 20 = .ok (.istore 5, 2) := by decide +kernel
theorem dX6_find_22 : decode cX6_find 22 = .ok (.iload 5, 2) := by decide +kernel
theorem dX6_find_24 : decode cX6_find 24 = .ok (.iload_n 3, 1) := by decide +kernel
theorem dX6_find_25 : decode cX6_find 25 = .ok (.if_icmp .ge 43, 3) := by decide +kernel
theorem dX6_find_28 : decode cX6_find 28 = .ok (.aload_n 0, 1) := by decide +kernel
theorem dX6_find_29 : decode cX6_find 29 = .ok (.getfield 22, 3) := by decide +kernel
theorem dX6_find_32 : decode cX6_find 32 = .ok (.iload 5, 2) := by decide +kernel
theorem dX6_find_34 : decode cX6_find 34 = .ok (.invokevirtual 42, 3) := by decide +kernel
theorem dX6_find_37 : decode cX6_find 37 = .ok (.iload_n 1, 1) := by decide +kernel
theorem dX6_find_38 : decode cX6_find 38 = .ok (.if_icmp .ge 9, 3) := by decide +kernel
theorem dX6_find_41 : decode cX6_find 41 = .ok (.iinc 4 1, 3) := by decide +kernel
theorem dX6_find_44 : decode cX6_find 44 = .ok (.goto 18, 3) := by decide +kernel
theorem dX6_find_47 : decode cX6_find 47 = .ok (.aload_n 0, 1) := by decide +kernel
theorem dX6_find_48 : decode cX6_find 48 = .ok (.iload 5, 2) := by decide +kernel
theorem dX6_find_50 : decode cX6_find 50 = .ok (.iload 4, 2) := by decide +kernel
theorem dX6_find_52 : decode cX6_find 52 = .ok (.isub, 1) := by decide +kernel
theorem dX6_find_53 : decode cX6_find 53 = .ok (.iload 4, 2) := by decide +kernel
theorem dX6_find_55 : decode cX6_find 55 = .ok (.iload_n 2, 1) := by decide +kernel
theorem dX6_find_56 : decode cX6_find 56 = .ok (.invokevirtual 48, 3) := by decide +kernel
theorem dX6_find_59 : decode cX6_find 59 = .ok (.iconst 0, 1) := by decide +kernel
theorem dX6_find_60 : decode cX6_find 60 = .ok (.istore 4, 2) := by decide +kernel
theorem dX6_find_62 : decode cX6_find 62 = .ok (.iinc 5 1, 3) := by decide +kernel
theorem dX6_find_65 : decode cX6_find 65 = .ok (.goto (-43), 3) := by decide +kernel
theorem dX6_find_68 : decode cX6_find 68 = .ok (.aload_n 0, 1) := by decide +kernel
theorem dX6_find_69 : decode cX6_find 69 = .ok (.iload_n 3, 1) := by decide +kernel
theorem dX6_find_70 : decode cX6_find 70 = .ok (.iload 4, 2) := by decide +kernel
theorem dX6_find_72 : decode cX6_find 72 = .ok (.isub, 1) := by decide +kernel
theorem dX6_find_73 : decode cX6_find 73 = .ok (.iload 4, 2) := by decide +kernel
theorem dX6_find_75 : decode cX6_find 75 = .ok (.iload_n 2, 1) := by decide +kernel
theorem dX6_find_76 : decode cX6_find 76 = .ok (.invokevirtual 48, 3) := by decide +kernel
theorem dX6_find_79 : decode cX6_find 79 = .ok (.return_, 1) := by decide +kernel
theorem dX6_add_0 : decode cX6_add 0 = .ok (.iload_n 2, 1) := by decide +kernel
theorem dX6_add_1 : decode cX6_add 1 = .ok (.iload_n 3, 1) := by decide +kernel
theorem dX6_add_2 : decode cX6_add 2 = .ok (.if_icmp .lt 43, 3) := by decide +kernel
theorem dX6_add_5 : decode cX6_add 5 = .ok (.aload_n 0, 1) := by decide +kernel
theorem dX6_add_6 : decode cX6_add 6 = .ok (.getfield 38, 3) := by decide +kernel
theorem dX6_add_9 : decode cX6_add 9 = .ok (.sipush 300, 3) := by decide +kernel
theorem dX6_add_12 : decode cX6_add 12 = .ok (.if_icmp .ge 33, 3) := by decide +kernel
theorem dX6_add_15 : decode cX6_add 15 = .ok (.aload_n 0, 1) := by decide +kernel
theorem dX6_add_16 : decode cX6_add 16 = .ok (.getfield 9, 3) := by decide +kernel
theorem dX6_add_19 : decode cX6_add 19 = .ok (.aload_n 0, 1) := by decide +kernel
theorem dX6_add_20 : decode cX6_add 20 = .ok (.getfield 38, 3) := by decide +kernel
theorem dX6_add_23 : decode cX6_add 23 = .ok (.iload_n 1, 1) := by decide +kernel
theorem dX6_add_24 : decode cX6_add 24 = .ok (.iastore, 1) := by decide +kernel
theorem dX6_add_25 : decode cX6_add 25 = .ok (.aload_n 0, 1) := by decide +kernel
theorem dX6_add_26 : decode cX6_add 26 = .ok (.getfield 15, 3) := by decide +kernel
theorem dX6_add_29 : decode cX6_add 29 = .ok (.aload_n 0, 1) := by decide +kernel
theorem dX6_add_30 : decode cX6_add 30 = .ok (.getfield 38, 3) := by decide +kernel
theorem dX6_add_33 : decode cX6_add 33 = .ok (.iload_n 2, 1) := by decide +kernel
theorem dX6_add_34 : decode cX6_add 34 = .ok (.iastore, 1) := by decide +kernel
theorem dX6_add_35 : decode cX6_add 35 = .ok (.aload_n 0, 1) := by decide +kernel
theorem dX6_add_36 : decode cX6_add 36 = .ok (.dup, 1) := by decide +kernel
theorem dX6_add_37 : decode cX6_add 37 = .ok (.getfield 38, 3) := by decide +kernel
theorem dX6_add_40 : decode cX6_add 40 = .ok (.iconst 1, 1) := by decide +kernel
theorem dX6_add_41 : decode cX6_add 41 = .ok (.iadd, 1) := by decide +kernel
theorem dX6_add_42 : decode cX6_add 42 = .ok (.putfield 38, 3) := by decide +kernel
theorem dX6_add_45 : decode cX6_add 45 = .ok (.return_, 1) := by decide +kernel
theorem dX7_init_0 : decode cX7_init 0 = .ok (.aload_n 0, 1) := by decide +kernel
theorem dX7_init_1 : decode cX7_init 1 = .ok (.invokespecial 3, 3) := by decide +kernel
theorem dX7_init_4 : decode cX7_init 4 = .ok (.aload_n 0, 1) := by decide +kernel
theorem dX7_init_5 : decode cX7_init 5 = .ok (.bipush 6, 2) := by decide +kernel
theorem dX7_init_7 : decode cX7_init 7 = .ok (.sipush 200, 3) := by decide +kernel
theorem dX7_init_10 : decode cX7_init 10 = .ok (.multianewarray 9 2, 4) := by decide +kernel
theorem dX7_init_14 : decode cX7_init 14 = .ok (.putfield 11, 3) := by decide +kernel
theorem dX7_init_17 : decode cX7_init 17 = .ok (.aload_n 0, 1) := by decide +kernel
theorem dX7_init_18 : decode cX7_init 18 = .ok (.iconst 4, 1) := by decide +kernel
theorem dX7_init_19 : decode cX7_init 19 = .ok (.sipush 600, 3) := by decide +kernel
theorem dX7_init_22 : decode cX7_init 22 = .ok (.multianewarray 9 2, 4) := by decide +kernel
theorem dX7_init_26 : decode cX7_init 26 = .ok (.putfield 16, 3) := by decide +kernel
theorem dX7_init_29 : decode cX7_init 29 = .ok (.aload_n 0, 1) := by decide +kernel
theorem dX7_init_30 : decode cX7_init 30 = .ok (.sipush 600, 3) := by decide +kernel
theorem dX7_init_33 : decode cX7_init 33 = .ok (.newarray .int, 2) := by decide +kernel
theorem dX7_init_35 : decode cX7_init 35 = .ok (.putfield 19, 3) := by decide +kernel
theorem dX7_init_38 : decode cX7_init 38 = .ok (.aload_n 0, 1) := by decide +kernel
theorem dX7_init_39 : decode cX7_init 39 = .ok (.sipush 600, 3) := by decide +kernel
theorem dX7_init_42 : decode cX7_init 42 = .ok (.newarray .int, 2) := by decide +kernel
theorem dX7_init_44 : decode cX7_init 44 = .ok (.putfield 23, 3) := by decide +kernel
theorem dX7_init_47 : decode cX7_init 47 = .ok (.aload_n 0, 1) := by decide +kernel
theorem dX7_init_48 : decode cX7_init 48 = .ok (.iconst 1, 1) := by decide +kernel
theorem dX7_init_49 : decode cX7_init 49 = .ok (.putfield 26, 3) := by decide +kernel
theorem dX7_init_52 : decode cX7_init 52 = .ok (.aload_n 0, 1) := by decide +kernel
theorem dX7_init_53 : decode cX7_init 53 = .ok (.aload_n 1, 1) := by decide +kernel
theorem dX7_init_54 : decode cX7_init 54 = .ok (.putfield 30, 3) := by decide +kernel
theorem dX7_init_57 : decode cX7_init 57 = .ok (.return_, 1) := by decide +kernel
theorem dX7_refresh_0 : decode cX7_refresh 0 = .ok (.aload_n 0, 1) := by decide +kernel
theorem dX7_refresh_1 : decode cX7_refresh 1 = .ok (.getfield 26, 3) := by decide +kernel
theorem dX7_refresh_4 : decode cX7_refresh 4 = .ok (.ifCond .ne 4, 3) := by decide +kernel
theorem dX7_refresh_7 : decode cX7_refresh 7 = .ok (.return_, 1) := by decide +kernel
theorem dX7_refresh_8 : decode cX7_refresh 8 = .ok (.aload_n 0, 1) := by decide +kernel
theorem dX7_refresh_9 : decode cX7_refresh 9 = .ok (.iconst 0, 1) := by decide +kernel
theorem dX7_refresh_10 : decode cX7_refresh 10 = .ok (.putfield 26, 3) := by decide +kernel
theorem dX7_refresh_13 : decode cX7_refresh 13 = .ok (.iconst 0, 1) := by decide +kernel
theorem dX7_refresh_14 : decode cX7_refresh 14 = .ok (.istore_n 1, 1) := by decide +kernel
theorem dX7_refresh_15 : decode cX7_refresh 15 = .ok (.iload_n 1, 1) := by decide +kernel
theorem dX7_refresh_16 : decode cX7_refresh 16 = .ok (.aload_n 0, 1) := by decide +kernel
theorem dX7_refresh_17 : decode cX7_refresh 17 = .ok (.getfield 30, 3) := by decide +kernel
theorem dX7_refresh_20 : decode cX7_refresh 20 = .ok (.getfield 34, 3) := by decide +kernel
theorem dX7_refresh_23 : decode cX7_refresh 23 = .ok (.if_icmp .ge 14, 3) := by decide +kernel
theorem dX7_refresh_26 : decode cX7_refresh 26 = .ok (.aload_n 0, 1) := by decide +kernel
theorem dX7_refresh_27 : decode cX7_refresh 27 = .ok (.iload_n 1, 1) := by decide +kernel
theorem dX7_refresh_28 : decode cX7_refresh 28 = .ok (.invokevirtual 40, 3) := by decide +kernel
theorem dX7_refresh_31 : decode cX7_refresh 31 = .ok (.iinc 1 1, 3) := by decide +kernel
theorem dX7_refresh_34 : decode cX7_refresh 34 = .ok (.goto (-19), 3) := by decide +kernel
theorem dX7_refresh_37 : decode cX7_refresh 37 = .ok (.aload_n 0, 1) := by decide +kernel
theorem dX7_refresh_38 : decode cX7_refresh 38 = .ok (.invokevirtual 44, 3) := by decide +kernel
theorem dX7_refresh_41 : decode cX7_refresh 41 = .ok (.aload_n 0, 1) := by decide +kernel
theorem dX7_refresh_42 : decode cX7_refresh 42 = .ok (.getfield 19, 3) := by decide +kernel
theorem dX7_refresh_45 : decode cX7_refresh 45 = .ok (.iconst 0, 1) := by decide +kernel
theorem dX7_refresh_46 : decode cX7_refresh 46 = .ok (.invokestatic 47, 3) := by decide +kernel
theorem dX7_refresh_49 : decode cX7_refresh 49 = .ok (.aload_n 0, 1) := by decide +kernel
theorem dX7_refresh_50 : decode cX7_refresh 50 = .ok (.getfield 23, 3) := by decide +kernel
theorem dX7_refresh_53 : decode cX7_refresh 53 = .ok (.iconst 0, 1) := by decide +kernel
theorem dX7_refresh_54 : decode cX7_refresh 54 = .ok (.invokestatic 47, 3) := by decide +kernel
theorem dX7_refresh_57 : decode cX7_refresh 57 = .ok (.iconst 0, 1) := by decide +kernel
theorem dX7_refresh_58 : decode cX7_refresh 58 = .ok (.istore_n 1, 1) := by decide +kernel
theorem dX7_refresh_59 : decode cX7_refresh 59 = .ok (.iload_n 1, 1) := by decide +kernel
theorem dX7_refresh_60 : decode cX7_refresh 60 = .ok (.iconst 4, 1) := by decide +kernel
theorem dX7_refresh_61 : decode cX7_refresh 61 = .ok (.if_icmp .ge 14, 3) := by decide +kernel
theorem dX7_refresh_64 : decode cX7_refresh 64 = .ok (.aload_n 0, 1) := by decide +kernel
theorem dX7_refresh_65 : decode cX7_refresh 65 = .ok (.iload_n 1, 1) := by decide +kernel
theorem dX7_refresh_66 : decode cX7_refresh 66 = .ok (.invokevirtual 53, 3) := by decide +kernel
theorem dX7_refresh_69 : decode cX7_refresh 69 = .ok (.iinc 1 1, 3) := by decide +kernel
theorem dX7_refresh_72 : decode cX7_refresh 72 = .ok (.goto (-13), 3) := by decide +kernel
theorem dX7_refresh_75 : decode cX7_refresh 75 = .ok (.iconst 0, 1) := by decide +kernel
theorem dX7_refresh_76 : decode cX7_refresh 76 = .ok (.istore_n 1, 1) := by decide +kernel
theorem dX7_refresh_77 : decode cX7_refresh 77 = .ok (.iload_n 1, 1) := by decide +kernel
theorem dX7_refresh_78 : decode cX7_refresh 78 = .ok (.iconst 4, 1) := by decide +kernel
theorem dX7_refresh_79 : decode cX7_refresh 79 = .ok (.if_icmp .ge 25, 3) := by decide +kernel
theorem dX7_refresh_82 : decode cX7_refresh 82 = .ok (.aload_n 0, 1) := by decide +kernel
theorem dX7_refresh_83 : decode cX7_refresh 83 = .ok (.getfield 30, 3) := by decide +kernel
theorem dX7_refresh_86 : decode cX7_refresh 86 = .ok (.iload_n 1, 1) := by decide +kernel
theorem dX7_refresh_87 : decode cX7_refresh 87 = .ok (.invokevirtual 56, 3) := by decide +kernel
theorem dX7_refresh_90 : decode cX7_refresh 90 = .ok (.ifCond .eq 8, 3) := by decide +kernel
theorem dX7_refresh_93 : decode cX7_refresh 93 = .ok (.aload_n 0, 1) := by decide +kernel
theorem dX7_refresh_94 : decode cX7_refresh 94 = .ok (.iload_n 1, 1) := by decide +kernel
theorem dX7_refresh_95 : decode cX7_refresh 95 = .ok (.invokevirtual 60, 3) := by decide +kernel
theorem dX7_refresh_98 : decode cX7_refresh 98 = .ok (.iinc 1 1, 3) := by decide +kernel
theorem dX7_refresh_101 : decode cX7_refresh 101 = .ok (.goto (-24), 3) := by decide +kernel
theorem dX7_refresh_104 : decode cX7_refresh 104 = .ok (.return_, 1) := by decide +kernel
theorem dX7_fillSource_0 : decode cX7_fillSource 0 = .ok (.aload_n 0, 1) := by decide +kernel
theorem dX7_fillSource_1 : decode cX7_fillSource 1 = .ok (.getfield 30, 3) := by decide +kernel
theorem dX7_fillSource_4 : decode cX7_fillSource 4 = .ok (.iload_n 1, 1) := by decide +kernel
theorem dX7_fillSource_5 : decode cX7_fillSource 5 = .ok (.iconst 0, 1) := by decide +kernel
theorem dX7_fillSource_6 : decode cX7_fillSource 6 = .ok (.invokevirtual 63, 3) := by decide +kernel
theorem dX7_fillSource_9 : decode cX7_fillSource 9 = .ok (.istore_n 2, 1) := by decide +kernel
theorem dX7_fillSource_10 : decode cX7_fillSource 10 = .ok (.sipush 200, 3) := by decide +kernel
theorem dX7_fillSource_13 : decode cX7_fillSource 13 = .ok (.aload_n 0, 1) := by decide +kernel
theorem dX7_fillSource_14 : decode cX7_fillSource 14 = .ok (.getfield 30, 3) := by decide +kernel
theorem dX7_fillSource_17 : decode cX7_fillSource 17 = .ok (.iload_n 1, 1) := by decide +kernel
theorem dX7_fillSource_18 : decode cX7_fillSource 18 = .ok (.iconst 1, 1) := by decide +kernel
theorem dX7_fillSource_19 : decode cX7_fillSource 19 = .ok (.invokevirtual 63, 3) := by decide +kernel
theorem dX7_fillSource_22 : decode cX7_fillSource 22 = .ok (.invokestatic 67, 3) := by decide +kernel
theorem dX7_fillSource_25 : decode cX7_fillSource 25 = .ok (.istore_n 3, 1) := by decide +kernel
theorem dX7_fillSource_26 : decode cX7_fillSource 26 = .ok (.aload_n 0, 1) := by decide +kernel
theorem dX7_fillSource_27 : decode cX7_fillSource 27 = .ok (.getfield 30, 3) := by decide +kernel
theorem dX7_fillSource_30 : decode cX7_fillSource 30 = .ok (.iload_n 1, 1) := by decide +kernel
theorem dX7_fillSource_31 : decode cX7_fillSource 31 = .ok (.iconst 2, 1) := by decide +kernel
theorem dX7_fillSource_32 : decode cX7_fillSource 32 = .ok (.invokevirtual 63, 3) := by decide +kernel
theorem dX7_fillSource_35 : decode cX7_fillSource 35 = .ok (.istore 4, 2) := by decide +kernel
theorem dX7_fillSource_37 : decode cX7_fillSource 37 = .ok (.aload_n 0, 1) := by decide +kernel
theorem dX7_fillSource_38 : decode cX7_fillSource 38 = .ok (.getfield 30, 3) := by decide +kernel
theorem dX7_fillSource_41 : decode cX7_fillSource 41 = .ok (.iload_n 1, 1) := by decide +kernel
theorem dX7_fillSource_42 : decode cX7_fillSource 42 = .ok (.iconst 3, 1) := by decide +kernel
theorem dX7_fillSource_43 : decode cX7_fillSource 43 = .ok (.invokevirtual 63, 3) := by decide +kernel
theorem dX7_fillSource_46 : decode cX7_fillSource 46 = .ok (.istore 5, 2) := by decide +kernel
theorem dX7_fillSource_48 : decode cX7_fillSource 48 = .ok (.iload 5, 2) := by decide +kernel
theorem dX7_fillSource_50 : decode cX7_fillSource 50 = .ok (.istore 6, 2) := by decide +kernel
theorem dX7_fillSource_52 : decode cX7_fillSource 52 = .ok (.iconst 0, 1) := by decide +kernel
theorem dX7_fillSource_53 : decode cX7_fillSource 53 = .ok (.istore 7, 2) := by decide +kernel
theorem dX7_fillSource_55 : decode cX7_fillSource 55 = .ok (.iload 7, 2) := by decide +kernel
theorem dX7_fillSource_57 : decode cX7_fillSource 57 = .ok (.iload_n 3, 1) := by decide +kernel
theorem dX7_fillSource_58 : decode cX7_fillSource 58 = .ok (.if_icmp .ge 109, 3) := by decide +kernel
theorem dX7_fillSource_61 : decode cX7_fillSource 61 = .ok (.iload 4, 2) := by decide +kernel
theorem dX7_fillSource_63 : decode cX7_fillSource 63 = .ok (.istore 8, 2) := by decide +kernel
theorem dX7_fillSource_65 : decode cX7_fillSource 65 = .ok (.iload_n 2, 1) := by decide +kernel
theorem dX7_fillSource_66 : decode cX7_fillSource 66 = .ok (.iconst 1, 1) := by decide +kernel
theorem dX7_fillSource_67 : decode cX7_fillSource 67 = .ok (.if_icmp .ne 21, 3) := by decide +kernel
theorem dX7_fillSource_70 : decode cX7_fillSource 70 = .ok (.iload 4, 2) := by decide +kernel
theorem dX7_fillSource_72 : decode cX7_fillSource 72 = .ok (.iload 5, 2) := by decide +kernel
theorem dX7_fillSource_74 : decode cX7_fillSource 74 = .ok (.iload 4, 2) := by decide +kernel
theorem dX7_fillSource_76 : decode cX7_fillSource 76 = .ok (.isub, 1) := by decide +kernel
theorem dX7_fillSource_77 : decode cX7_fillSource 77 = .ok (.iload 7, 2) := by decide +kernel
theorem dX7_fillSource_79 : decode cX7_fillSource 79 = .ok (.imul, 1) := by decide +kernel
theorem dX7_fillSource_80 : decode cX7_fillSource 80 = .ok (.iload_n 3, 1) := by decide +kernel
theorem dX7_fillSource_81 : decode cX7_fillSource 81 = .ok (.idiv, 1) := by decide +kernel
theorem dX7_fillSource_82 : decode cX7_fillSource 82 = .ok (.iadd, 1) := by decide +kernel
theorem dX7_fillSource_83 : decode cX7_fillSource 83 = .ok (.istore 8, 2) := by decide +kernel
theorem dX7_fillSource_85 : decode cX7_fillSource 85 = .ok (.goto 65, 3) := by decide +kernel
theorem dX7_fillSource_88 : decode cX7_fillSource 88 = .ok (.iload_n 2, 1) := by decide +kernel
theorem dX7_fillSource_89 : decode cX7_fillSource 89 = .ok (.iconst 2, 1) := by decide +kernel
theorem dX7_fillSource_90 : decode cX7_fillSource 90 = .ok (.if_icmp .ne 28, 3) := by decide +kernel
theorem dX7_fillSource_93 : decode cX7_fillSource 93 = .ok (.iload 7, 2) := by decide +kernel
theorem dX7_fillSource_95 : decode cX7_fillSource 95 = .ok (.iconst 1, 1) := by decide +kernel
theorem dX7_fillSource_96 : decode cX7_fillSource 96 = .ok (.iload 5, 2) := by decide +kernel
theorem dX7_fillSource_98 : decode cX7_fillSource 98 = .ok (.invokestatic 72, 3) := by decide +kernel
theorem dX7_fillSource_101 : decode cX7_fillSource 101 = .ok (.idiv, 1) := by decide +kernel
theorem dX7_fillSource_102 : decode cX7_fillSource 102 = .ok (.iconst 2, 1) := by decide +kernel
theorem dX7_fillSource_103 : decode cX7_fillSource 103 = .ok (.irem, 1) := by decide +kernel
theorem dX7_fillSource_104 : decode cX7_fillSource 104 = .ok (.ifCond .ne 8, 3) := by decide +kernel
theorem dX7_fillSource_107 : decode cX7_fillSource 107 = .ok (.iload 4, 2) := by decide +kernel
theorem dX7_fillSource_109 : decode cX7_fillSource 109 = .ok (.goto 4, 3) := by decide +kernel
theorem dX7_fillSource_112 : decode cX7_fillSource 112 = .ok (.iconst 0, 1) := by decide +kernel
theorem dX7_fillSource_113 : decode cX7_fillSource 113 = .ok (.istore 8, 2) := by decide +kernel
theorem dX7_fillSource_115 : decode cX7_fillSource 115 = .ok (.goto 35, 3) := by decide +kernel
theorem dX7_fillSource_118 : decode cX7_fillSource 118 = .ok (.iload_n 2, 1) := by decide +kernel
theorem dX7_fillSource_119 : decode cX7_fillSource 119 = .ok (.iconst 3, 1) := by decide +kernel
theorem dX7_fillSource_120 : decode cX7_fillSource 120 = .ok (.if_icmp .ne 30, 3) := by decide +kernel
theorem dX7_fillSource_123 : decode cX7_fillSource 123 = .ok (.iload 6, 2) := by decide +kernel
theorem dX7_fillSource_125 : decode cX7_fillSource 125 = .ok (.ldc 75, 2) := by decide +kernel
theorem dX7_fillSource_127 : decode cX7_fillSource 127 = .ok (.imul, 1) := by decide +kernel
theorem dX7_fillSource_128 : decode cX7_fillSource 128 = .ok (.sipush 12345, 3) := by decide +kernel
theorem dX7_fillSource_131 : decode cX7_fillSource 131 = .ok (.iadd, 1) := by decide +kernel
theorem dX7_fillSource_132 : decode cX7_fillSource 132 = .ok (.istore 6, 2) := by decide +kernel
theorem dX7_fillSource_134 : decode cX7_fillSource 134 = .ok (.iload 6, 2) := by decide +kernel
theorem dX7_fillSource_136 : decode cX7_fillSource 136 = .ok (.bipush 16, 2) := by decide +kernel
theorem dX7_fillSource_138 : decode cX7_fillSource 138 = .ok (.iushr, 1) := by decide +kernel
theorem dX7_fillSource_139 : decode cX7_fillSource 139 = .ok (.iconst 1, 1) := by decide +kernel
theorem dX7_fillSource_140 : decode cX7_fillSource 140 = .ok (.iload 4, 2) := by decide +kernel
theorem dX7_fillSource_142 : decode cX7_fillSource 142 = .ok (.iconst 1, 1) := by decide +kernel
theorem dX7_fillSource_143 : decode cX7_fillSource 143 = .ok (.iadd, 1) := by decide +kernel
theorem dX7_fillSource_144 : decode cX7_fillSource 144 = .ok (.invokestatic 72, 3) := by decide +kernel
theorem dX7_fillSource_147 : decode cX7_fillSource 147 = .ok (.irem, 1) := by decide +kernel
theorem dX7_fillSource_148 : decode cX7_fillSource 148 = .ok (.istore 8, 2) := by decide +kernel
theorem dX7_fillSource_150 : decode cX7_fillSource 150 = .ok (.aload_n 0, 1) := by decide +kernel
theorem dX7_fillSource_151 : decode cX7_fillSource 151 = .ok (.getfield 11, 3) := by decide +kernel
theorem dX7_fillSource_154 : decode cX7_fillSource 154 = .ok (.iload_n 1, 1) := by decide +kernel
theorem dX7_fillSource_155 : decode cX7_fillSource 155 = .ok (.aaload, 1) := by decide +kernel
theorem dX7_fillSource_156 : decode cX7_fillSource 156 = .ok (.iload 7, 2) := by decide +kernel
theorem dX7_fillSource_158 : decode cX7_fillSource 158 = .ok (.iload 8, 2) := by decide +kernel
theorem dX7_fillSource_160 : decode cX7_fillSource 160 = .ok (.iastore, 1) := by decide +kernel
theorem dX7_fillSource_161 : decode cX7_fillSource 161 = .ok (.iinc 7 1, 3) := by decide +kernel
theorem dX7_fillSource_164 : decode cX7_fillSource 164 = .ok (.goto (-109), 3) := by decide +kernel
theorem dX7_fillSource_167 : decode cX7_fillSource 167 = .ok (.return_, 1) := by decide +kernel
theorem dX7_fillDry_0 : decode cX7_fillDry 0 = .ok (.iconst 0, 1) := by decide +kernel
theorem dX7_fillDry_1 : decode cX7_fillDry 1 = .ok (.istore_n 1, 1) := by decide +kernel
theorem dX7_fillDry_2 : decode cX7_fillDry 2 = .ok (.iload_n 1, 1) := by decide +kernel
theorem dX7_fillDry_3 : decode cX7_fillDry 3 = .ok (.iconst 4, 1) := by decide +kernel
theorem dX7_fillDry_4 : decode cX7_fillDry 4 = .ok (.if_icmp .ge 19, 3) := by decide +kernel
theorem dX7_fillDry_7 : decode cX7_fillDry 7 = .ok (.aload_n 0, 1) := by decide +kernel
theorem dX7_fillDry_8 : decode cX7_fillDry 8 = .ok (.getfield 16, 3) := by decide +kernel
theorem dX7_fillDry_11 : decode cX7_fillDry 11 = .ok (.iload_n 1, 1) := by decide +kernel
theorem dX7_fillDry_12 : decode cX7_fillDry 12 = .ok (.aaload, 1) := by decide +kernel
theorem dX7_fillDry_13 : decode cX7_fillDry 13 = .ok (.iconst 0, 1) := by decide +kernel
theorem dX7_fillDry_14 : decode cX7_fillDry 14 = .ok (.invokestatic 47, 3) := by decide +kernel
theorem dX7_fillDry_17 : decode cX7_fillDry 17 = .ok (.iinc 1 1, 3) := by decide +kernel
theorem dX7_fillDry_20 : decode cX7_fillDry 20 = .ok (.goto (-18), 3) := by decide +kernel
theorem dX7_fillDry_23 : decode cX7_fillDry 23 = .ok (.iconst 0, 1) := by decide +kernel
theorem dX7_fillDry_24 : decode cX7_fillDry 24 = .ok (.istore_n 1, 1) := by decide +kernel
theorem dX7_fillDry_25 : decode cX7_fillDry 25 = .ok (.iload_n 1, 1) := by decide +kernel
theorem dX7_fillDry_26 : decode cX7_fillDry 26 = .ok (.aload_n 0, 1) := by decide +kernel
theorem dX7_fillDry_27 : decode cX7_fillDry 27 = .ok (.getfield 30, 3) := by decide +kernel
theorem dX7_fillDry_30 : decode cX7_fillDry 30 = .ok (.getfield 76, 3) := by decide +kernel
theorem dX7_fillDry_33 : decode cX7_fillDry 33 = .ok (.getfield 80, 3) := by decide +kernel
theorem dX7_fillDry_36 : decode cX7_fillDry 36 = .ok (.if_icmp .ge 96, 3) := by decide +kernel
theorem dX7_fillDry_39 : decode cX7_fillDry 39 = .ok (.aload_n 0, 1) := by decide +kernel
theorem dX7_fillDry_40 : decode cX7_fillDry 40 = .ok (.getfield 30, 3) := by decide +kernel
theorem dX7_fillDry_43 : decode cX7_fillDry 43 = .ok (.getfield 76, 3) := by decide +kernel
theorem dX7_fillDry_46 : decode cX7_fillDry 46 = .ok (.iload_n 1, 1) := by decide +kernel
theorem dX7_fillDry_47 : decode cX7_fillDry 47 = .ok (.iconst 0, 1) := by decide +kernel
theorem dX7_fillDry_48 : decode cX7_fillDry 48 = .ok (.invokevirtual 85, 3) := by decide +kernel
theorem dX7_fillDry_51 : decode cX7_fillDry 51 = .ok (.istore_n 2, 1) := by decide +kernel
theorem dX7_fillDry_52 : decode cX7_fillDry 52 = .ok (.aload_n 0, 1) := by decide +kernel
theorem dX7_fillDry_53 : decode cX7_fillDry 53 = .ok (.getfield 30, 3) := by decide +kernel
theorem dX7_fillDry_56 : decode cX7_fillDry 56 = .ok (.getfield 76, 3) := by decide +kernel
theorem dX7_fillDry_59 : decode cX7_fillDry 59 = .ok (.iload_n 1, 1) := by decide +kernel
theorem dX7_fillDry_60 : decode cX7_fillDry 60 = .ok (.iconst 1, 1) := by decide +kernel
theorem dX7_fillDry_61 : decode cX7_fillDry 61 = .ok (.invokevirtual 85, 3) := by decide +kernel
theorem dX7_fillDry_64 : decode cX7_fillDry 64 = .ok (.istore_n 3, 1) := by decide +kernel
theorem dX7_fillDry_65 : decode cX7_fillDry 65 = .ok (.aload_n 0, 1) := by decide +kernel
theorem dX7_fillDry_66 : decode cX7_fillDry 66 = .ok (.getfield 30, 3) := by decide +kernel
theorem dX7_fillDry_69 : decode cX7_fillDry 69 = .ok (.iload_n 2, 1) := by decide +kernel
theorem dX7_fillDry_70 : decode cX7_fillDry 70 = .ok (.iconst 0, 1) := by decide +kernel
theorem dX7_fillDry_71 : decode cX7_fillDry 71 = .ok (.invokevirtual 88, 3) := by decide +kernel
theorem dX7_fillDry_74 : decode cX7_fillDry 74 = .ok (.istore 4, 2) := by decide +kernel
theorem dX7_fillDry_76 : decode cX7_fillDry 76 = .ok (.iconst 0, 1) := by decide +kernel
theorem dX7_fillDry_77 : decode cX7_fillDry 77 = .ok (.istore 5, 2) := by decide +kernel
theorem dX7_fillDry_79 : decode cX7_fillDry 79 = .ok (.iload 5, 2) := by decide +kernel
theorem dX7_fillDry_81 : decode cX7_fillDry 81 = .ok (.aload_n 0, 1) := by decide +kernel
theorem dX7_fillDry_82 : decode cX7_fillDry 82 = .ok (.getfield 30, 3) := by decide +kernel
theorem dX7_fillDry_85 : decode cX7_fillDry 85 = .ok (.getfield 76, 3) := by decide +kernel
theorem dX7_fillDry_88 : decode cX7_fillDry 88 = .ok (.iload_n 1, 1) := by decide +kernel
theorem dX7_fillDry_89 : decode cX7_fillDry 89 = .ok (.iconst 4, 1) := by decide +kernel
theorem dX7_fillDry_90 : decode cX7_fillDry 90 = .ok (.invokevirtual 85, 3) := by decide +kernel
theorem dX7_fillDry_93 : decode cX7_fillDry 93 = .ok (.if_icmp .ge 33, 3) := by decide +kernel
theorem dX7_fillDry_96 : decode cX7_fillDry 96 = .ok (.aload_n 0, 1) := by decide +kernel
theorem dX7_fillDry_97 : decode cX7_fillDry 97 = .ok (.getfield 16, 3) := by decide +kernel
theorem dX7_fillDry_100 : decode cX7_fillDry 100 = .ok (.iload_n 2, 1) := by decide +kernel
