theorem dX7_fillDry_101 : decode cX7_fillDry 101 = .ok (.aaload, 1) := by decide +kernel
theorem dX7_fillDry_102 : decode cX7_fillDry 102 = .ok (.iload_n 3, 1) := by decide +kernel
theorem dX7_fillDry_103 : decode cX7_fillDry 103 = .ok (.iload 5, 2) := by decide +kernel
theorem dX7_fillDry_105 : decode cX7_fillDry 105 = .ok (.iadd, 1) := by decide +kernel
theorem dX7_fillDry_106 : decode cX7_fillDry 106 = .ok (.aload_n 0, 1) := by decide +kernel
theorem dX7_fillDry_107 : decode cX7_fillDry 107 = .ok (.iload_n 1, 1) := by decide +kernel
theorem dX7_fillDry_108 : decode cX7_fillDry 108 = .ok (.iload 5, 2) := by decide +kernel
theorem dX7_fillDry_110 : decode cX7_fillDry 110 = .ok (.invokevirtual 91, 3) := by decide +kernel
theorem dX7_fillDry_113 : decode cX7_fillDry 113 = .ok (.iload 4, 2) := by decide +kernel
theorem dX7_fillDry_115 : decode cX7_fillDry 115 = .ok (.imul, 1) := by decide +kernel
theorem dX7_fillDry_116 : decode cX7_fillDry 116 = .ok (.bipush 100, 2) := by decide +kernel
theorem dX7_fillDry_118 : decode cX7_fillDry 118 = .ok (.idiv, 1) := by decide +kernel
theorem dX7_fillDry_119 : decode cX7_fillDry 119 = .ok (.iastore, 1) := by decide +kernel
theorem dX7_fillDry_120 : decode cX7_fillDry 120 = .ok (.iinc 5 1, 3) := by decide +kernel
theorem dX7_fillDry_123 : decode cX7_fillDry 123 = .ok (.goto (-44), 3) := by decide +kernel
theorem dX7_fillDry_126 : decode cX7_fillDry 126 = .ok (.iinc 1 1, 3) := by decide +kernel
theorem dX7_fillDry_129 : decode cX7_fillDry 129 = .ok (.goto (-104), 3) := by decide +kernel
theorem dX7_fillDry_132 : decode cX7_fillDry 132 = .ok (.return_, 1) := by decide +kernel
theorem dX7_fillDucked_0 : decode cX7_fillDucked 0 = .ok (.aload_n 0, 1) := by decide +kernel
theorem dX7_fillDucked_1 : decode cX7_fillDucked 1 = .ok (.getfield 30, 3) := by decide +kernel
theorem dX7_fillDucked_4 : decode cX7_fillDucked 4 = .ok (.iload_n 1, 1) := by decide +kernel
theorem dX7_fillDucked_5 : decode cX7_fillDucked 5 = .ok (.iconst 3, 1) := by decide +kernel
theorem dX7_fillDucked_6 : decode cX7_fillDucked 6 = .ok (.invokevirtual 88, 3) := by decide +kernel
theorem dX7_fillDucked_9 : decode cX7_fillDucked 9 = .ok (.istore_n 2, 1) := by decide +kernel
theorem dX7_fillDucked_10 : decode cX7_fillDucked 10 = .ok (.iload_n 2, 1) := by decide +kernel
theorem dX7_fillDucked_11 : decode cX7_fillDucked 11 = .ok (.invokestatic 94, 3) := by decide +kernel
theorem dX7_fillDucked_14 : decode cX7_fillDucked 14 = .ok (.ifCond .ne 4, 3) := by decide +kernel
theorem dX7_fillDucked_17 : decode cX7_fillDucked 17 = .ok (.return_, 1) := by decide +kernel
theorem dX7_fillDucked_18 : decode cX7_fillDucked 18 = .ok (.aload_n 0, 1) := by decide +kernel
theorem dX7_fillDucked_19 : decode cX7_fillDucked 19 = .ok (.getfield 30, 3) := by decide +kernel
theorem dX7_fillDucked_22 : decode cX7_fillDucked 22 = .ok (.iload_n 1, 1) := by decide +kernel
theorem dX7_fillDucked_23 : decode cX7_fillDucked 23 = .ok (.iconst 4, 1) := by decide +kernel
theorem dX7_fillDucked_24 : decode cX7_fillDucked 24 = .ok (.invokevirtual 88, 3) := by decide +kernel
theorem dX7_fillDucked_27 : decode cX7_fillDucked 27 = .ok (.istore_n 3, 1) := by decide +kernel
theorem dX7_fillDucked_28 : decode cX7_fillDucked 28 = .ok (.aload_n 0, 1) := by decide +kernel
theorem dX7_fillDucked_29 : decode cX7_fillDucked 29 = .ok (.getfield 30, 3) := by decide +kernel
theorem dX7_fillDucked_32 : decode cX7_fillDucked 32 = .ok (.iload_n 1, 1) := by decide +kernel
theorem dX7_fillDucked_33 : decode cX7_fillDucked 33 = .ok (.bipush 6, 2) := by decide +kernel
theorem dX7_fillDucked_35 : decode cX7_fillDucked 35 = .ok (.invokevirtual 88, 3) := by decide +kernel
theorem dX7_fillDucked_38 : decode cX7_fillDucked 38 = .ok (.istore 4, 2) := by decide +kernel
theorem dX7_fillDucked_40 : decode cX7_fillDucked 40 = .ok (.iload 4, 2) := by decide +kernel
theorem dX7_fillDucked_42 : decode cX7_fillDucked 42 = .ok (.iconst 1, 1) := by decide +kernel
theorem dX7_fillDucked_43 : decode cX7_fillDucked 43 = .ok (.iadd, 1) := by decide +kernel
theorem dX7_fillDucked_44 : decode cX7_fillDucked 44 = .ok (.istore 5, 2) := by decide +kernel
theorem dX7_fillDucked_46 : decode cX7_fillDucked 46 = .ok (.iconst 0, 1) := by decide +kernel
theorem dX7_fillDucked_47 : decode cX7_fillDucked 47 = .ok (.istore 6, 2) := by decide +kernel
theorem dX7_fillDucked_49 : decode cX7_fillDucked 49 = .ok (.iload 6, 2) := by decide +kernel
theorem dX7_fillDucked_51 : decode cX7_fillDucked 51 = .ok (.sipush 600, 3) := by decide +kernel
theorem dX7_fillDucked_54 : decode cX7_fillDucked 54 = .ok (.if_icmp .ge 52, 3) := by decide +kernel
theorem dX7_fillDucked_57 : decode cX7_fillDucked 57 = .ok (.aload_n 0, 1) := by decide +kernel
theorem dX7_fillDucked_58 : decode cX7_fillDucked 58 = .ok (.getfield 16, 3) := by decide +kernel
theorem dX7_fillDucked_61 : decode cX7_fillDucked 61 = .ok (.iload_n 2, 1) := by decide +kernel
theorem dX7_fillDucked_62 : decode cX7_fillDucked 62 = .ok (.aaload, 1) := by decide +kernel
theorem dX7_fillDucked_63 : decode cX7_fillDucked 63 = .ok (.iload 6, 2) := by decide +kernel
theorem dX7_fillDucked_65 : decode cX7_fillDucked 65 = .ok (.iaload, 1) := by decide +kernel
theorem dX7_fillDucked_66 : decode cX7_fillDucked 66 = .ok (.iload_n 3, 1) := by decide +kernel
theorem dX7_fillDucked_67 : decode cX7_fillDucked 67 = .ok (.if_icmp .lt 7, 3) := by decide +kernel
theorem dX7_fillDucked_70 : decode cX7_fillDucked 70 = .ok (.iconst 0, 1) := by decide +kernel
theorem dX7_fillDucked_71 : decode cX7_fillDucked 71 = .ok (.goto 7, 3) := by decide +kernel
theorem dX7_fillDucked_74 : decode cX7_fillDucked 74 = .ok (.iload 5, 2) := by decide +kernel
theorem dX7_fillDucked_76 : decode cX7_fillDucked 76 = .ok (.iconst 1, 1) := by decide +kernel
theorem dX7_fillDucked_77 : decode cX7_fillDucked 77 = .ok (.iadd, 1) := by decide +kernel
theorem dX7_fillDucked_78 : decode cX7_fillDucked 78 = .ok (.istore 5, 2) := by decide +kernel
theorem dX7_fillDucked_80 : decode cX7_fillDucked 80 = .ok (.iload 5, 2) := by decide +kernel
theorem dX7_fillDucked_82 : decode cX7_fillDucked 82 = .ok (.iload 4, 2) := by decide +kernel
theorem dX7_fillDucked_84 : decode cX7_fillDucked 84 = .ok (.if_icmp .gt 16, 3) := by decide +kernel
theorem dX7_fillDucked_87 : decode cX7_fillDucked 87 = .ok (.aload_n 0, 1) := by decide +kernel
theorem dX7_fillDucked_88 : decode cX7_fillDucked 88 = .ok (.getfield 19, 3) := by decide +kernel
theorem dX7_fillDucked_91 : decode cX7_fillDucked 91 = .ok (.iload 6, 2) := by decide +kernel
theorem dX7_fillDucked_93 : decode cX7_fillDucked 93 = .ok (.dup2, 1) := by decide +kernel
theorem dX7_fillDucked_94 : decode cX7_fillDucked 94 = .ok (.iaload, 1) := by decide +kernel
theorem dX7_fillDucked_95 : decode cX7_fillDucked 95 = .ok (.iconst 1, 1) := by decide +kernel
theorem dX7_fillDucked_96 : decode cX7_fillDucked 96 = .ok (.iload_n 1, 1) := by decide +kernel
theorem dX7_fillDucked_97 : decode cX7_fillDucked 97 = .ok (.ishl, 1) := by decide +kernel
theorem dX7_fillDucked_98 : decode cX7_fillDucked 98 = .ok (.ior, 1) := by decide +kernel
theorem dX7_fillDucked_99 : decode cX7_fillDucked 99 = .ok (.iastore, 1) := by decide +kernel
theorem dX7_fillDucked_100 : decode cX7_fillDucked 100 = .ok (.iinc 6 1, 3) := by decide +kernel
theorem dX7_fillDucked_103 : decode cX7_fillDucked 103 = .ok (.goto (-54), 3) := by decide +kernel
theorem dX7_fillDucked_106 : decode cX7_fillDucked 106 = .ok (.return_, 1) := by decide +kernel
theorem dX7_addTrack_0 : decode cX7_addTrack 0 = .ok (.iconst 0, 1) := by decide +kernel
theorem dX7_addTrack_1 : decode cX7_addTrack 1 = .ok (.istore_n 2, 1) := by decide +kernel
theorem dX7_addTrack_2 : decode cX7_addTrack 2 = .ok (.iload_n 2, 1) := by decide +kernel
theorem dX7_addTrack_3 : decode cX7_addTrack 3 = .ok (.sipush 600, 3) := by decide +kernel
theorem dX7_addTrack_6 : decode cX7_addTrack 6 = .ok (.if_icmp .ge 24, 3) := by decide +kernel
theorem dX7_addTrack_9 : decode cX7_addTrack 9 = .ok (.aload_n 0, 1) := by decide +kernel
theorem dX7_addTrack_10 : decode cX7_addTrack 10 = .ok (.getfield 23, 3) := by decide +kernel
theorem dX7_addTrack_13 : decode cX7_addTrack 13 = .ok (.iload_n 2, 1) := by decide +kernel
theorem dX7_addTrack_14 : decode cX7_addTrack 14 = .ok (.dup2, 1) := by decide +kernel
theorem dX7_addTrack_15 : decode cX7_addTrack 15 = .ok (.iaload, 1) := by decide +kernel
theorem dX7_addTrack_16 : decode cX7_addTrack 16 = .ok (.aload_n 0, 1) := by decide +kernel
theorem dX7_addTrack_17 : decode cX7_addTrack 17 = .ok (.iload_n 1, 1) := by decide +kernel
theorem dX7_addTrack_18 : decode cX7_addTrack 18 = .ok (.iload_n 2, 1) := by decide +kernel
theorem dX7_addTrack_19 : decode cX7_addTrack 19 = .ok (.invokevirtual 97, 3) := by decide +kernel
theorem dX7_addTrack_22 : decode cX7_addTrack 22 = .ok (.iadd, 1) := by decide +kernel
theorem dX7_addTrack_23 : decode cX7_addTrack 23 = .ok (.iastore, 1) := by decide +kernel
theorem dX7_addTrack_24 : decode cX7_addTrack 24 = .ok (.iinc 2 1, 3) := by decide +kernel
theorem dX7_addTrack_27 : decode cX7_addTrack 27 = .ok (.goto (-25), 3) := by decide +kernel
theorem dX7_addTrack_30 : decode cX7_addTrack 30 = .ok (.return_, 1) := by decide +kernel
theorem dX7_sourceAt_0 : decode cX7_sourceAt 0 = .ok (.aload_n 0, 1) := by decide +kernel
theorem dX7_sourceAt_1 : decode cX7_sourceAt 1 = .ok (.getfield 11, 3) := by decide +kernel
theorem dX7_sourceAt_4 : decode cX7_sourceAt 4 = .ok (.iload_n 1, 1) := by decide +kernel
theorem dX7_sourceAt_5 : decode cX7_sourceAt 5 = .ok (.aaload, 1) := by decide +kernel
theorem dX7_sourceAt_6 : decode cX7_sourceAt 6 = .ok (.iload_n 2, 1) := by decide +kernel
theorem dX7_sourceAt_7 : decode cX7_sourceAt 7 = .ok (.iaload, 1) := by decide +kernel
theorem dX7_sourceAt_8 : decode cX7_sourceAt 8 = .ok (.ireturn, 1) := by decide +kernel
theorem dX7_clipValue_0 : decode cX7_clipValue 0 = .ok (.aload_n 0, 1) := by decide +kernel
theorem dX7_clipValue_1 : decode cX7_clipValue 1 = .ok (.getfield 30, 3) := by decide +kernel
theorem dX7_clipValue_4 : decode cX7_clipValue 4 = .ok (.getfield 76, 3) := by decide +kernel
theorem dX7_clipValue_7 : decode cX7_clipValue 7 = .ok (.astore_n 3, 1) := by decide +kernel
theorem dX7_clipValue_8 : decode cX7_clipValue 8 = .ok (.aload_n 0, 1) := by decide +kernel
theorem dX7_clipValue_9 : decode cX7_clipValue 9 = .ok (.aload_n 3, 1) := by decide +kernel
theorem dX7_clipValue_10 : decode cX7_clipValue 10 = .ok (.iload_n 1, 1) := by decide +kernel
theorem dX7_clipValue_11 : decode cX7_clipValue 11 = .ok (.iconst 2, 1) := by decide +kernel
theorem dX7_clipValue_12 : decode cX7_clipValue 12 = .ok (.invokevirtual 85, 3) := by decide +kernel
theorem dX7_clipValue_15 : decode cX7_clipValue 15 = .ok (.aload_n 3, 1) := by decide +kernel
theorem dX7_clipValue_16 : decode cX7_clipValue 16 = .ok (.iload_n 1, 1) := by decide +kernel
theorem dX7_clipValue_17 : decode cX7_clipValue 17 = .ok (.iconst 3, 1) := by decide +kernel
theorem dX7_clipValue_18 : decode cX7_clipValue 18 = .ok (.invokevirtual 85, 3) := by decide +kernel
theorem dX7_clipValue_21 : decode cX7_clipValue 21 = .ok (.iload_n 2, 1) := by decide +kernel
theorem dX7_clipValue_22 : decode cX7_clipValue 22 = .ok (.iadd, 1) := by decide +kernel
theorem dX7_clipValue_23 : decode cX7_clipValue 23 = .ok (.invokevirtual 100, 3) := by decide +kernel
theorem dX7_clipValue_26 : decode cX7_clipValue 26 = .ok (.istore 4, 2) := by decide +kernel
theorem dX7_clipValue_28 : decode cX7_clipValue 28 = .ok (.iload 4, 2) := by decide +kernel
theorem dX7_clipValue_30 : decode cX7_clipValue 30 = .ok (.aload_n 3, 1) := by decide +kernel
theorem dX7_clipValue_31 : decode cX7_clipValue 31 = .ok (.iload_n 1, 1) := by decide +kernel
theorem dX7_clipValue_32 : decode cX7_clipValue 32 = .ok (.iconst 5, 1) := by decide +kernel
theorem dX7_clipValue_33 : decode cX7_clipValue 33 = .ok (.invokevirtual 85, 3) := by decide +kernel
theorem dX7_clipValue_36 : decode cX7_clipValue 36 = .ok (.imul, 1) := by decide +kernel
theorem dX7_clipValue_37 : decode cX7_clipValue 37 = .ok (.bipush 100, 2) := by decide +kernel
theorem dX7_clipValue_39 : decode cX7_clipValue 39 = .ok (.idiv, 1) := by decide +kernel
theorem dX7_clipValue_40 : decode cX7_clipValue 40 = .ok (.istore 4, 2) := by decide +kernel
theorem dX7_clipValue_42 : decode cX7_clipValue 42 = .ok (.aload_n 3, 1) := by decide +kernel
theorem dX7_clipValue_43 : decode cX7_clipValue 43 = .ok (.iload_n 1, 1) := by decide +kernel
theorem dX7_clipValue_44 : decode cX7_clipValue 44 = .ok (.bipush 6, 2) := by decide +kernel
theorem dX7_clipValue_46 : decode cX7_clipValue 46 = .ok (.invokevirtual 85, 3) := by decide +kernel
theorem dX7_clipValue_49 : decode cX7_clipValue 49 = .ok (.istore 5, 2) := by decide +kernel
theorem dX7_clipValue_51 : decode cX7_clipValue 51 = .ok (.iload_n 2, 1) := by decide +kernel
theorem dX7_clipValue_52 : decode cX7_clipValue 52 = .ok (.iload 5, 2) := by decide +kernel
theorem dX7_clipValue_54 : decode cX7_clipValue 54 = .ok (.if_icmp .ge 18, 3) := by decide +kernel
theorem dX7_clipValue_57 : decode cX7_clipValue 57 = .ok (.aload_n 0, 1) := by decide +kernel
theorem dX7_clipValue_58 : decode cX7_clipValue 58 = .ok (.iload 4, 2) := by decide +kernel
theorem dX7_clipValue_60 : decode cX7_clipValue 60 = .ok (.iload_n 2, 1) := by decide +kernel
theorem dX7_clipValue_61 : decode cX7_clipValue 61 = .ok (.iconst 1, 1) := by decide +kernel
theorem dX7_clipValue_62 : decode cX7_clipValue 62 = .ok (.iadd, 1) := by decide +kernel
theorem dX7_clipValue_63 : decode cX7_clipValue 63 = .ok (.iload 5, 2) := by decide +kernel
theorem dX7_clipValue_65 : decode cX7_clipValue 65 = .ok (.iconst 1, 1) := by decide +kernel
theorem dX7_clipValue_66 : decode cX7_clipValue 66 = .ok (.iadd, 1) := by decide +kernel
theorem dX7_clipValue_67 : decode cX7_clipValue 67 = .ok (.invokevirtual 103, 3) := by decide +kernel
theorem dX7_clipValue_70 : decode cX7_clipValue 70 = .ok (.istore 4, 2) := by decide +kernel
theorem dX7_clipValue_72 : decode cX7_clipValue 72 = .ok (.aload_n 3, 1) := by decide +kernel
theorem dX7_clipValue_73 : decode cX7_clipValue 73 = .ok (.iload_n 1, 1) := by decide +kernel
theorem dX7_clipValue_74 : decode cX7_clipValue 74 = .ok (.iconst 4, 1) := by decide +kernel
theorem dX7_clipValue_75 : decode cX7_clipValue 75 = .ok (.invokevirtual 85, 3) := by decide +kernel
theorem dX7_clipValue_78 : decode cX7_clipValue 78 = .ok (.iload_n 2, 1) := by decide +kernel
theorem dX7_clipValue_79 : decode cX7_clipValue 79 = .ok (.isub, 1) := by decide +kernel
theorem dX7_clipValue_80 : decode cX7_clipValue 80 = .ok (.istore 6, 2) := by decide +kernel
theorem dX7_clipValue_82 : decode cX7_clipValue 82 = .ok (.aload_n 3, 1) := by decide +kernel
theorem dX7_clipValue_83 : decode cX7_clipValue 83 = .ok (.iload_n 1, 1) := by decide +kernel
theorem dX7_clipValue_84 : decode cX7_clipValue 84 = .ok (.bipush 7, 2) := by decide +kernel
theorem dX7_clipValue_86 : decode cX7_clipValue 86 = .ok (.invokevirtual 85, 3) := by decide +kernel
theorem dX7_clipValue_89 : decode cX7_clipValue 89 = .ok (.istore 7, 2) := by decide +kernel
theorem dX7_clipValue_91 : decode cX7_clipValue 91 = .ok (.iload 6, 2) := by decide +kernel
theorem dX7_clipValue_93 : decode cX7_clipValue 93 = .ok (.iload 7, 2) := by decide +kernel
theorem dX7_clipValue_95 : decode cX7_clipValue 95 = .ok (.if_icmp .gt 17, 3) := by decide +kernel
theorem dX7_clipValue_98 : decode cX7_clipValue 98 = .ok (.aload_n 0, 1) := by decide +kernel
theorem dX7_clipValue_99 : decode cX7_clipValue 99 = .ok (.iload 4, 2) := by decide +kernel
theorem dX7_clipValue_101 : decode cX7_clipValue 101 = .ok (.iload 6, 2) := by decide +kernel
theorem dX7_clipValue_103 : decode cX7_clipValue 103 = .ok (.iload 7, 2) := by decide +kernel
theorem dX7_clipValue_105 : decode cX7_clipValue 105 = .ok (.iconst 1, 1) := by decide +kernel
theorem dX7_clipValue_106 : decode cX7_clipValue 106 = .ok (.iadd, 1) := by decide +kernel
theorem dX7_clipValue_107 : decode cX7_clipValue 107 = .ok (.invokevirtual 103, 3) := by decide +kernel
theorem dX7_clipValue_110 : decode cX7_clipValue 110 = .ok (.istore 4, 2) := by decide +kernel
theorem dX7_clipValue_112 : decode cX7_clipValue 112 = .ok (.iload 4, 2) := by decide +kernel
theorem dX7_clipValue_114 : decode cX7_clipValue 114 = .ok (.sipush 999, 3) := by decide +kernel
theorem dX7_clipValue_117 : decode cX7_clipValue 117 = .ok (.invokestatic 67, 3) := by decide +kernel
theorem dX7_clipValue_120 : decode cX7_clipValue 120 = .ok (.ireturn, 1) := by decide +kernel
theorem dX7_faded_0 : decode cX7_faded 0 = .ok (.aload_n 0, 1) := by decide +kernel
theorem dX7_faded_1 : decode cX7_faded 1 = .ok (.getfield 30, 3) := by decide +kernel
theorem dX7_faded_4 : decode cX7_faded 4 = .ok (.getfield 107, 3) := by decide +kernel
theorem dX7_faded_7 : decode cX7_faded 7 = .ok (.iconst 4, 1) := by decide +kernel
theorem dX7_faded_8 : decode cX7_faded 8 = .ok (.iaload, 1) := by decide +kernel
theorem dX7_faded_9 : decode cX7_faded 9 = .ok (.istore 4, 2) := by decide +kernel
theorem dX7_faded_11 : decode cX7_faded 11 = .ok (.iload 4, 2) := by decide +kernel
theorem dX7_faded_13 : decode cX7_faded 13 = .ok (.iconst 2, 1) := by decide +kernel
theorem dX7_faded_14 : decode cX7_faded 14 = .ok (.if_icmp .eq 8, 3) := by decide +kernel
theorem dX7_faded_17 : decode cX7_faded 17 = .ok (.iload_n 3, 1) := by decide +kernel
theorem dX7_faded_18 : decode cX7_faded 18 = .ok (.iconst 1, 1) := by decide +kernel
theorem dX7_faded_19 : decode cX7_faded 19 = .ok (.if_icmp .ge 16, 3) := by decide +kernel
theorem dX7_faded_22 : decode cX7_faded 22 = .ok (.iconst 2, 1) := by decide +kernel
theorem dX7_faded_23 : decode cX7_faded 23 = .ok (.iload_n 2, 1) := by decide +kernel
theorem dX7_faded_24 : decode cX7_faded 24 = .ok (.imul, 1) := by decide +kernel
theorem dX7_faded_25 : decode cX7_faded 25 = .ok (.iload_n 3, 1) := by decide +kernel
theorem dX7_faded_26 : decode cX7_faded 26 = .ok (.if_icmp .ge 7, 3) := by decide +kernel
theorem dX7_faded_29 : decode cX7_faded 29 = .ok (.iconst 0, 1) := by decide +kernel
theorem dX7_faded_30 : decode cX7_faded 30 = .ok (.goto 4, 3) := by decide +kernel
theorem dX7_faded_33 : decode cX7_faded 33 = .ok (.iload_n 1, 1) := by decide +kernel
theorem dX7_faded_34 : decode cX7_faded 34 = .ok (.ireturn, 1) := by decide +kernel
theorem dX7_faded_35 : decode cX7_faded 35 = .ok (.iload 4, 2) := by decide +kernel
theorem dX7_faded_37 : decode cX7_faded 37 = .ok (.ifCond .ne 11, 3) := by decide +kernel
theorem dX7_faded_40 : decode cX7_faded 40 = .ok (.iload_n 1, 1) := by decide +kernel
theorem dX7_faded_41 : decode cX7_faded 41 = .ok (.iload_n 2, 1) := by decide +kernel
theorem dX7_faded_42 : decode cX7_faded 42 = .ok (.imul, 1) := by decide +kernel
theorem dX7_faded_43 : decode cX7_faded 43 = .ok (.iload_n 3, 1) := by decide +kernel
theorem dX7_faded_44 : decode cX7_faded 44 = .ok (.idiv, 1) := by decide +kernel
theorem dX7_faded_45 : decode cX7_faded 45 = .ok (.goto 12, 3) := by decide +kernel
theorem dX7_faded_48 : decode cX7_faded 48 = .ok (.iload_n 1, 1) := by decide +kernel
theorem dX7_faded_49 : decode cX7_faded 49 = .ok (.iload_n 2, 1) := by decide +kernel
theorem dX7_faded_50 : decode cX7_faded 50 = .ok (.imul, 1) := by decide +kernel
theorem dX7_faded_51 : decode cX7_faded 51 = .ok (.iload_n 2, 1) := by decide +kernel
theorem dX7_faded_52 : decode cX7_faded 52 = .ok (.imul, 1) := by decide +kernel
theorem dX7_faded_53 : decode cX7_faded 53 = .ok (.iload_n 3, 1) := by decide +kernel
theorem dX7_faded_54 : decode cX7_faded 54 = .ok (.iload_n 3, 1) := by decide +kernel
theorem dX7_faded_55 : decode cX7_faded 55 = .ok (.imul, 1) := by decide +kernel
theorem dX7_faded_56 : decode cX7_faded 56 = .ok (.idiv, 1) := by decide +kernel
theorem dX7_faded_57 : decode cX7_faded 57 = .ok (.ireturn, 1) := by decide +kernel
theorem dX7_greatestOfSource_0 : decode cX7_greatestOfSource 0 = .ok (.iconst 0, 1) := by decide +kernel
theorem dX7_greatestOfSource_1 : decode cX7_greatestOfSource 1 = .ok (.istore_n 2, 1) := by decide +kernel
theorem dX7_greatestOfSource_2 : decode cX7_greatestOfSource 2 = .ok (.iconst 0, 1) := by decide +kernel
theorem dX7_greatestOfSource_3 : decode cX7_greatestOfSource 3 = .ok (.istore_n 3, 1) := by decide +kernel
theorem dX7_greatestOfSource_4 : decode cX7_greatestOfSource 4 = .ok (.iload_n 3, 1) := by decide +kernel
theorem dX7_greatestOfSource_5 : decode cX7_greatestOfSource 5 = .ok (.aload_n 0, 1) := by decide +kernel
theorem dX7_greatestOfSource_6 : decode cX7_greatestOfSource 6 = .ok (.getfield 30, 3) := by decide +kernel
theorem dX7_greatestOfSource_9 : decode cX7_greatestOfSource 9 = .ok (.iload_n 1, 1) := by decide +kernel
theorem dX7_greatestOfSource_10 : decode cX7_greatestOfSource 10 = .ok (.iconst 1, 1) := by decide +kernel
theorem dX7_greatestOfSource_11 : decode cX7_greatestOfSource 11 = .ok (.invokevirtual 63, 3) := by decide +kernel
theorem dX7_greatestOfSource_14 : decode cX7_greatestOfSource 14 = .ok (.if_icmp .ge 20, 3) := by decide +kernel
theorem dX7_greatestOfSource_17 : decode cX7_greatestOfSource 17 = .ok (.iload_n 2, 1) := by decide +kernel
theorem dX7_greatestOfSource_18 : decode cX7_greatestOfSource 18 = .ok (.aload_n 0, 1) := by decide +kernel
theorem dX7_greatestOfSource_19 : decode cX7_greatestOfSource 19 = .ok (.iload_n 1, 1) := by decide +kernel
theorem dX7_greatestOfSource_20 : decode cX7_greatestOfSource 20 = .ok (.iload_n 3, 1) := by decide +kernel
theorem dX7_greatestOfSource_21 : decode cX7_greatestOfSource 21 = .ok (.invokevirtual 100, 3) := by decide +kernel
theorem dX7_greatestOfSource_24 : decode cX7_greatestOfSource 24 = .ok (.invokestatic 72, 3) := by decide +kernel
theorem dX7_greatestOfSource_27 : decode cX7_greatestOfSource 27 = .ok (.istore_n 2, 1) := by decide +kernel
theorem dX7_greatestOfSource_28 : decode cX7_greatestOfSource 28 = .ok (.iinc 3 1, 3) := by decide +kernel
theorem dX7_greatestOfSource_31 : decode cX7_greatestOfSource 31 = .ok (.goto (-27), 3) := by decide +kernel
theorem dX7_greatestOfSource_34 : decode cX7_greatestOfSource 34 = .ok (.iload_n 2, 1) := by decide +kernel
theorem dX7_greatestOfSource_35 : decode cX7_greatestOfSource 35 = .ok (.ireturn, 1) := by decide +kernel
theorem dX7_greatestOfClip_0 : decode cX7_greatestOfClip 0 = .ok (.iconst 0, 1) := by decide +kernel
theorem dX7_greatestOfClip_1 : decode cX7_greatestOfClip 1 = .ok (.istore_n 2, 1) := by decide +kernel
theorem dX7_greatestOfClip_2 : decode cX7_greatestOfClip 2 = .ok (.iconst 0, 1) := by decide +kernel
theorem dX7_greatestOfClip_3 : decode cX7_greatestOfClip 3 = .ok (.istore_n 3, 1) := by decide +kernel
theorem dX7_greatestOfClip_4 : decode cX7_greatestOfClip 4 = .ok (.iload_n 3, 1) := by decide +kernel
theorem dX7_greatestOfClip_5 : decode cX7_greatestOfClip 5 = .ok (.aload_n 0, 1) := by decide +kernel
theorem dX7_greatestOfClip_6 : decode cX7_greatestOfClip 6 = .ok (.getfield 30, 3) := by decide +kernel
theorem dX7_greatestOfClip_9 : decode cX7_greatestOfClip 9 = .ok (.getfield 76, 3) := by decide +kernel
theorem dX7_greatestOfClip_12 : decode cX7_greatestOfClip 12 = .ok (.iload_n 1, 1) := by decide +kernel
theorem dX7_greatestOfClip_13 : decode cX7_greatestOfClip 13 = .ok (.iconst 4, 1) := by decide +kernel
theorem dX7_greatestOfClip_14 : decode cX7_greatestOfClip 14 = .ok (.invokevirtual 85, 3) := by decide +kernel
theorem dX7_greatestOfClip_17 : decode cX7_greatestOfClip 17 = .ok (.if_icmp .ge 20, 3) := by decide +kernel
theorem dX7_greatestOfClip_20 : decode cX7_greatestOfClip 20 = .ok (.iload_n 2, 1) := by decide +kernel
theorem dX7_greatestOfClip_21 : decode cX7_greatestOfClip 21 = .ok (.aload_n 0, 1) := by decide +kernel
theorem dX7_greatestOfClip_22 : decode cX7_greatestOfClip 22 = .ok (.iload_n 1, 1) := by decide +kernel
theorem dX7_greatestOfClip_23 : decode cX7_greatestOfClip 23 = .ok (.iload_n 3, 1) := by decide +kernel
theorem dX7_greatestOfClip_24 : decode cX7_greatestOfClip 24 = .ok (.invokevirtual 91, 3) := by decide +kernel
theorem dX7_greatestOfClip_27 : decode cX7_greatestOfClip 27 = .ok (.invokestatic 72, 3) := by decide +kernel
theorem dX7_greatestOfClip_30 : decode cX7_greatestOfClip 30 = .ok (.istore_n 2, 1) := by decide +kernel
theorem dX7_greatestOfClip_31 : decode cX7_greatestOfClip 31 = .ok (.iinc 3 1, 3) := by decide +kernel
theorem dX7_greatestOfClip_34 : decode cX7_greatestOfClip 34 = .ok (.goto (-30), 3) := by decide +kernel
theorem dX7_greatestOfClip_37 : decode cX7_greatestOfClip 37 = .ok (.iload_n 2, 1) := by decide +kernel
theorem dX7_greatestOfClip_38 : decode cX7_greatestOfClip 38 = .ok (.ireturn, 1) := by decide +kernel
theorem dX7_sumOfClip_0 : decode cX7_sumOfClip 0 = .ok (.iconst 0, 1) := by decide +kernel
theorem dX7_sumOfClip_1 : decode cX7_sumOfClip 1 = .ok (.istore_n 2, 1) := by decide +kernel
theorem dX7_sumOfClip_2 : decode cX7_sumOfClip 2 = .ok (.iconst 0, 1) := by decide +kernel
theorem dX7_sumOfClip_3 : decode cX7_sumOfClip 3 = .ok (.istore_n 3, 1) := by decide +kernel
theorem dX7_sumOfClip_4 : decode cX7_sumOfClip 4 = .ok (.iload_n 3, 1) := by decide +kernel
theorem dX7_sumOfClip_5 : decode cX7_sumOfClip 5 = .ok (.aload_n 0, 1) := by decide +kernel
theorem dX7_sumOfClip_6 : decode cX7_sumOfClip 6 = .ok (.getfield 30, 3) := by decide +kernel
theorem dX7_sumOfClip_9 : decode cX7_sumOfClip 9 = .ok (.getfield 76, 3) := by decide +kernel
theorem dX7_sumOfClip_12 : decode cX7_sumOfClip 12 = .ok (.iload_n 1, 1) := by decide +kernel
theorem dX7_sumOfClip_13 : decode cX7_sumOfClip 13 = .ok (.iconst 4, 1) := by decide +kernel
theorem dX7_sumOfClip_14 : decode cX7_sumOfClip 14 = .ok (.invokevirtual 85, 3) := by decide +kernel
theorem dX7_sumOfClip_17 : decode cX7_sumOfClip 17 = .ok (.if_icmp .ge 18, 3) := by decide +kernel
theorem dX7_sumOfClip_20 : decode cX7_sumOfClip 20 = .ok (.iload_n 2, 1) := by decide +kernel
theorem dX7_sumOfClip_21 : decode cX7_sumOfClip 21 = .ok (.aload_n 0, 1) := by decide +kernel
theorem dX7_sumOfClip_22 : decode cX7_sumOfClip 22 = .ok (.iload_n 1, 1) := by decide +kernel
theorem dX7_sumOfClip_23 : decode cX7_sumOfClip 23 = .ok (.iload_n 3, 1) := by decide +kernel
theorem dX7_sumOfClip_24 : decode cX7_sumOfClip 24 = .ok (.invokevirtual 91, 3) := by decide +kernel
theorem dX7_sumOfClip_27 : decode cX7_sumOfClip 27 = .ok (.iadd, 1) := by decide +kernel
theorem dX7_sumOfClip_28 : decode cX7_sumOfClip 28 = .ok (.istore_n 2, 1) := by decide +kernel
theorem dX7_sumOfClip_29 : decode cX7_sumOfClip 29 = .ok (.iinc 3 1, 3) := by decide +kernel
theorem dX7_sumOfClip_32 : decode cX7_sumOfClip 32 = .ok (.goto (-28), 3) := by decide +kernel
theorem dX7_sumOfClip_35 : decode cX7_sumOfClip 35 = .ok (.iload_n 2, 1) := by decide +kernel
theorem dX7_sumOfClip_36 : decode cX7_sumOfClip 36 = .ok (.ireturn, 1) := by decide +kernel
theorem dX7_valueOnTrack_0 : decode cX7_valueOnTrack 0 = .ok (.aload_n 0, 1) := by decide +kernel
theorem dX7_valueOnTrack_1 : decode cX7_valueOnTrack 1 = .ok (.getfield 30, 3) := by decide +kernel
theorem dX7_valueOnTrack_4 : decode cX7_valueOnTrack 4 = .ok (.getfield 76, 3) := by decide +kernel
theorem dX7_valueOnTrack_7 : decode cX7_valueOnTrack 7 = .ok (.iload_n 1, 1) := by decide +kernel
theorem dX7_valueOnTrack_8 : decode cX7_valueOnTrack 8 = .ok (.iload_n 2, 1) := by decide +kernel
theorem dX7_valueOnTrack_9 : decode cX7_valueOnTrack 9 = .ok (.invokevirtual 110, 3) := by decide +kernel
theorem dX7_valueOnTrack_12 : decode cX7_valueOnTrack 12 = .ok (.istore_n 3, 1) := by decide +kernel
theorem dX7_valueOnTrack_13 : decode cX7_valueOnTrack 13 = .ok (.iload_n 3, 1) := by decide +kernel
theorem dX7_valueOnTrack_14 : decode cX7_valueOnTrack 14 = .ok (.ifCond .ge 7, 3) := by decide +kernel
theorem dX7_valueOnTrack_17 : decode cX7_valueOnTrack 17 = .ok (.iconst 0, 1) := by decide +kernel
theorem dX7_valueOnTrack_18 : decode cX7_valueOnTrack 18 = .ok (.goto 22, 3) := by decide +kernel
theorem dX7_valueOnTrack_21 : decode cX7_valueOnTrack 21 = .ok (.aload_n 0, 1) := by decide +kernel
theorem dX7_valueOnTrack_22 : decode cX7_valueOnTrack 22 = .ok (.iload_n 3, 1) := by decide +kernel
theorem dX7_valueOnTrack_23 : decode cX7_valueOnTrack 23 = .ok (.iload_n 2, 1) := by decide +kernel
theorem dX7_valueOnTrack_24 : decode cX7_valueOnTrack 24 = .ok (.aload_n 0, 1) := by decide +kernel
theorem dX7_valueOnTrack_25 : decode cX7_valueOnTrack 25 = .ok (.getfield 30, 3) := by decide +kernel
theorem dX7_valueOnTrack_28 : decode cX7_valueOnTrack 28 = .ok (.getfield 76, 3) := by decide +kernel
theorem dX7_valueOnTrack_31 : decode cX7_valueOnTrack 31 = .ok (.iload_n 3, 1) := by decide +kernel
theorem dX7_valueOnTrack_32 : decode cX7_valueOnTrack 32 = .ok (.iconst 1, 1) := by decide +kernel
theorem dX7_valueOnTrack_33 : decode cX7_valueOnTrack 33 = .ok (.invokevirtual 85, 3) := by decide +kernel
theorem dX7_valueOnTrack_36 : decode cX7_valueOnTrack 36 = .ok (.isub, 1) := by decide +kernel
theorem dX7_valueOnTrack_37 : decode cX7_valueOnTrack 37 = .ok (.invokevirtual 91, 3) := by decide +kernel
theorem dX7_valueOnTrack_40 : decode cX7_valueOnTrack 40 = .ok (.ireturn, 1) := by decide +kernel
theorem dX7_dryAt_0 : decode cX7_dryAt 0 = .ok (.aload_n 0, 1) := by decide +kernel
theorem dX7_dryAt_1 : decode cX7_dryAt 1 = .ok (.getfield 16, 3) := by decide +kernel
theorem dX7_dryAt_4 : decode cX7_dryAt 4 = .ok (.iload_n 1, 1) := by decide +kernel
theorem dX7_dryAt_5 : decode cX7_dryAt 5 = .ok (.aaload, 1) := by decide +kernel
theorem dX7_dryAt_6 : decode cX7_dryAt 6 = .ok (.iload_n 2, 1) := by decide +kernel
theorem dX7_dryAt_7 : decode cX7_dryAt 7 = .ok (.iaload, 1) := by decide +kernel
theorem dX7_dryAt_8 : decode cX7_dryAt 8 = .ok (.ireturn, 1) := by decide +kernel
theorem dX7_isDucked_0 : decode cX7_isDucked 0 = .ok (.aload_n 0, 1) := by decide +kernel
theorem dX7_isDucked_1 : decode cX7_isDucked 1 = .ok (.getfield 19, 3) := by decide +kernel
theorem dX7_isDucked_4 : decode cX7_isDucked 4 = .ok (.iload_n 2, 1) := by decide +kernel
theorem dX7_isDucked_5 : decode cX7_isDucked 5 = .ok (.iaload, 1) := by decide +kernel
theorem dX7_isDucked_6 : decode cX7_isDucked 6 = .ok (.iload_n 1, 1) := by decide +kernel
theorem dX7_isDucked_7 : decode cX7_isDucked 7 = .ok (.ishr, 1) := by decide +kernel
theorem dX7_isDucked_8 : decode cX7_isDucked 8 = .ok (.iconst 1, 1) := by decide +kernel
theorem dX7_isDucked_9 : decode cX7_isDucked 9 = .ok (.iand, 1) := by decide +kernel
theorem dX7_isDucked_10 : decode cX7_isDucked 10 = .ok (.iconst 1, 1) := by decide +kernel
theorem dX7_isDucked_11 : decode cX7_isDucked 11 = .ok (.if_icmp .ne 7, 3) := by decide +kernel
theorem dX7_isDucked_14 : decode cX7_isDucked 14 = .ok (.iconst 1, 1) := by decide +kernel
theorem dX7_isDucked_15 : decode cX7_isDucked 15 = .ok (.goto 4, 3) := by decide +kernel
theorem dX7_isDucked_18 : decode cX7_isDucked 18 = .ok (.iconst 0, 1) := by decide +kernel
theorem dX7_isDucked_19 : decode cX7_isDucked 19 = .ok (.ireturn, 1) := by decide +kernel
theorem dX7_wetAt_0 : decode cX7_wetAt 0 = .ok (.aload_n 0, 1) := by decide +kernel
theorem dX7_wetAt_1 : decode cX7_wetAt 1 = .ok (.getfield 16, 3) := by decide +kernel
theorem dX7_wetAt_4 : decode cX7_wetAt 4 = .ok (.iload_n 1, 1) := by decide +kernel
theorem dX7_wetAt_5 : decode cX7_wetAt 5 = .ok (.aaload, 1) := by decide +kernel
theorem dX7_wetAt_6 : decode cX7_wetAt 6 = .ok (.iload_n 2, 1) := by decide +kernel
theorem dX7_wetAt_7 : decode cX7_wetAt 7 = .ok (.iaload, 1) := by decide +kernel
theorem dX7_wetAt_8 : decode cX7_wetAt 8 = .ok (.istore_n 3, 1) := by decide +kernel
theorem dX7_wetAt_9 : decode cX7_wetAt 9 = .ok (.aload_n 0, 1) := by decide +kernel
theorem dX7_wetAt_10 : decode cX7_wetAt 10 = .ok (.iload_n 1, 1) := by decide +kernel
theorem dX7_wetAt_11 : decode cX7_wetAt 11 = .ok (.iload_n 2, 1) := by decide +kernel
theorem dX7_wetAt_12 : decode cX7_wetAt 12 = .ok (.invokevirtual 113, 3) := by decide +kernel
theorem dX7_wetAt_15 : decode cX7_wetAt 15 = .ok (.ifCond .eq 23, 3) := by decide +kernel
theorem dX7_wetAt_18 : decode cX7_wetAt 18 = .ok (.iload_n 3, 1) := by decide +kernel
theorem dX7_wetAt_19 : decode cX7_wetAt 19 = .ok (.bipush 100, 2) := by decide +kernel
theorem dX7_wetAt_21 : decode cX7_wetAt 21 = .ok (.aload_n 0, 1) := by decide +kernel
theorem dX7_wetAt_22 : decode cX7_wetAt 22 = .ok (.getfield 30, 3) := by decide +kernel
theorem dX7_wetAt_25 : decode cX7_wetAt 25 = .ok (.iload_n 1, 1) := by decide +kernel
theorem dX7_wetAt_26 : decode cX7_wetAt 26 = .ok (.iconst 5, 1) := by decide +kernel
theorem dX7_wetAt_27 : decode cX7_wetAt 27 = .ok (.invokevirtual 88, 3) := by decide +kernel
theorem dX7_wetAt_30 : decode cX7_wetAt 30 = .ok (.isub, 1) := by decide +kernel
theorem dX7_wetAt_31 : decode cX7_wetAt 31 = .ok (.imul, 1) := by decide +kernel
theorem dX7_wetAt_32 : decode cX7_wetAt 32 = .ok (.bipush 100, 2) := by decide +kernel
theorem dX7_wetAt_34 : decode cX7_wetAt 34 = .ok (.idiv, 1) := by decide +kernel
theorem dX7_wetAt_35 : decode cX7_wetAt 35 = .ok (.goto 4, 3) := by decide +kernel
theorem dX7_wetAt_38 : decode cX7_wetAt 38 = .ok (.iload_n 3, 1) := by decide +kernel
theorem dX7_wetAt_39 : decode cX7_wetAt 39 = .ok (.ireturn, 1) := by decide +kernel
theorem dX7_duckedFrames_0 : decode cX7_duckedFrames 0 = .ok (.aload_n 0, 1) := by decide +kernel
theorem dX7_duckedFrames_1 : decode cX7_duckedFrames 1 = .ok (.getfield 30, 3) := by decide +kernel
theorem dX7_duckedFrames_4 : decode cX7_duckedFrames 4 = .ok (.getfield 76, 3) := by decide +kernel
theorem dX7_duckedFrames_7 : decode cX7_duckedFrames 7 = .ok (.invokevirtual 117, 3) := by decide +kernel
theorem dX7_duckedFrames_10 : decode cX7_duckedFrames 10 = .ok (.istore_n 2, 1) := by decide +kernel
theorem dX7_duckedFrames_11 : decode cX7_duckedFrames 11 = .ok (.iconst 0, 1) := by decide +kernel
theorem dX7_duckedFrames_12 : decode cX7_duckedFrames 12 = .ok (.istore_n 3, 1) := by decide +kernel
theorem dX7_duckedFrames_13 : decode cX7_duckedFrames 13 = .ok (.iconst 0, 1) := by decide +kernel
theorem dX7_duckedFrames_14 : decode cX7_duckedFrames 14 = .ok (.istore 4, 2) := by decide +kernel
theorem dX7_duckedFrames_16 : decode cX7_duckedFrames 16 = .ok (.iload 4, 2) := by decide +kernel
theorem dX7_duckedFrames_18 : decode cX7_duckedFrames 18 = .ok (.iload_n 2, 1) := by decide +kernel
theorem dX7_duckedFrames_19 : decode cX7_duckedFrames 19 = .ok (.if_icmp .ge 27, 3) := by decide +kernel
theorem dX7_duckedFrames_22 : decode cX7_duckedFrames 22 = .ok (.iload_n 3, 1) := by decide +kernel
theorem dX7_duckedFrames_23 : decode cX7_duckedFrames 23 = .ok (.aload_n 0, 1) := by decide +kernel
theorem dX7_duckedFrames_24 : decode cX7_duckedFrames 24 = .ok (.iload_n 1, 1) := by decide +kernel
theorem dX7_duckedFrames_25 : decode cX7_duckedFrames 25 = .ok (.iload 4, 2) := by decide +kernel
theorem dX7_duckedFrames_27 : decode cX7_duckedFrames 27 = .ok (.invokevirtual 113, 3) := by decide +kernel
theorem dX7_duckedFrames_30 : decode cX7_duckedFrames 30 = .ok (.ifCond .eq 7, 3) := by decide +kernel
theorem dX7_duckedFrames_33 : decode cX7_duckedFrames 33 = .ok (.iconst 1, 1) := by decide +kernel
theorem dX7_duckedFrames_34 : decode cX7_duckedFrames 34 = .ok (.goto 4, 3) := by decide +kernel
theorem dX7_duckedFrames_37 : decode cX7_duckedFrames 37 = .ok (.iconst 0, 1) := by decide +kernel
theorem dX7_duckedFrames_38 : decode cX7_duckedFrames 38 = .ok (.iadd, 1) := by decide +kernel
theorem dX7_duckedFrames_39 : decode cX7_duckedFrames 39 = .ok (.istore_n 3, 1) := by decide +kernel
theorem dX7_duckedFrames_40 : decode cX7_duckedFrames 40 = .ok (.iinc 4 1, 3) := by decide +kernel
theorem dX7_duckedFrames_43 : decode cX7_duckedFrames 43 = .ok (.goto (-27), 3) := by decide +kernel
theorem dX7_duckedFrames_46 : decode cX7_duckedFrames 46 = .ok (.iload_n 3, 1) := by decide +kernel
theorem dX7_duckedFrames_47 : decode cX7_duckedFrames 47 = .ok (.ireturn, 1) := by decide +kernel
theorem dX7_greatestOfTrack_0 : decode cX7_greatestOfTrack 0 = .ok (.iconst 0, 1) := by decide +kernel
theorem dX7_greatestOfTrack_1 : decode cX7_greatestOfTrack 1 = .ok (.istore_n 2, 1) := by decide +kernel
theorem dX7_greatestOfTrack_2 : decode cX7_greatestOfTrack 2 = .ok (.iconst 0, 1) := by decide +kernel
theorem dX7_greatestOfTrack_3 : decode cX7_greatestOfTrack 3 = .ok (.istore_n 3, 1) := by decide +kernel
theorem dX7_greatestOfTrack_4 : decode cX7_greatestOfTrack 4 = .ok (.iload_n 3, 1) := by decide +kernel
theorem dX7_greatestOfTrack_5 : decode cX7_greatestOfTrack 5 = .ok (.sipush 600, 3) := by decide +kernel
theorem dX7_greatestOfTrack_8 : decode cX7_greatestOfTrack 8 = .ok (.if_icmp .ge 20, 3) := by decide +kernel
theorem dX7_greatestOfTrack_11 : decode cX7_greatestOfTrack 11 = .ok (.iload_n 2, 1) := by decide +kernel
theorem dX7_greatestOfTrack_12 : decode cX7_greatestOfTrack 12 = .ok (.aload_n 0, 1) := by decide +kernel
theorem dX7_greatestOfTrack_13 : decode cX7_greatestOfTrack 13 = .ok (.iload_n 1, 1) := by decide +kernel
theorem dX7_greatestOfTrack_14 : decode cX7_greatestOfTrack 14 = .ok (.iload_n 3, 1) := by decide +kernel
theorem dX7_greatestOfTrack_15 : decode cX7_greatestOfTrack 15 = .ok (.invokevirtual 97, 3) := by decide +kernel
theorem dX7_greatestOfTrack_18 : decode cX7_greatestOfTrack 18 = .ok (.invokestatic 72, 3) := by decide +kernel
theorem dX7_greatestOfTrack_21 : decode cX7_greatestOfTrack 21 = .ok (.istore_n 2, 1) := by decide +kernel
theorem dX7_greatestOfTrack_22 : decode cX7_greatestOfTrack 22 = .ok (.iinc 3 1, 3) := by decide +kernel
theorem dX7_greatestOfTrack_25 : decode cX7_greatestOfTrack 25 = .ok (.goto (-21), 3) := by decide +kernel
theorem dX7_greatestOfTrack_28 : decode cX7_greatestOfTrack 28 = .ok (.iload_n 2, 1) := by decide +kernel
theorem dX7_greatestOfTrack_29 : decode cX7_greatestOfTrack 29 = .ok (.ireturn, 1) := by decide +kernel
theorem dX7_unlimitedAt_0 : decode cX7_unlimitedAt 0 = .ok (.aload_n 0, 1) := by decide +kernel
theorem dX7_unlimitedAt_1 : decode cX7_unlimitedAt 1 = .ok (.getfield 23, 3) := by decide +kernel
theorem dX7_unlimitedAt_4 : decode cX7_unlimitedAt 4 = .ok (.iload_n 1, 1) := by decide +kernel
theorem dX7_unlimitedAt_5 : decode cX7_unlimitedAt 5 = .ok (.iaload, 1) := by decide +kernel
theorem dX7_unlimitedAt_6 : decode cX7_unlimitedAt 6 = .ok (.aload_n 0, 1) := by decide +kernel
theorem dX7_unlimitedAt_7 : decode cX7_unlimitedAt 7 = .ok (.getfield 30, 3) := by decide +kernel
theorem dX7_unlimitedAt_10 : decode cX7_unlimitedAt 10 = .ok (.getfield 107, 3) := by decide +kernel
theorem dX7_unlimitedAt_13 : decode cX7_unlimitedAt 13 = .ok (.iconst 0, 1) := by decide +kernel
theorem dX7_unlimitedAt_14 : decode cX7_unlimitedAt 14 = .ok (.iaload, 1) := by decide +kernel
theorem dX7_unlimitedAt_15 : decode cX7_unlimitedAt 15 = .ok (.imul, 1) := by decide +kernel
theorem dX7_unlimitedAt_16 : decode cX7_unlimitedAt 16 = .ok (.bipush 100, 2) := by decide +kernel
theorem dX7_unlimitedAt_18 : decode cX7_unlimitedAt 18 = .ok (.idiv, 1) := by decide +kernel
theorem dX7_unlimitedAt_19 : decode cX7_unlimitedAt 19 = .ok (.ireturn, 1) := by decide +kernel
theorem dX7_mixAt_0 : decode cX7_mixAt 0 = .ok (.sipush 999, 3) := by decide +kernel
theorem dX7_mixAt_3 : decode cX7_mixAt 3 = .ok (.aload_n 0, 1) := by decide +kernel
theorem dX7_mixAt_4 : decode cX7_mixAt 4 = .ok (.iload_n 1, 1) := by decide +kernel
theorem dX7_mixAt_5 : decode cX7_mixAt 5 = .ok (.invokevirtual 121, 3) := by decide +kernel
theorem dX7_mixAt_8 : decode cX7_mixAt 8 = .ok (.invokestatic 67, 3) := by decide +kernel
theorem dX7_mixAt_11 : decode cX7_mixAt 11 = .ok (.ireturn, 1) := by decide +kernel
theorem dX7_greatestMix_0 : decode cX7_greatestMix 0 = .ok (.sipush 600, 3) := by decide +kernel
theorem dX7_greatestMix_3 : decode cX7_greatestMix 3 = .ok (.iload_n 1, 1) := by decide +kernel
theorem dX7_greatestMix_4 : decode cX7_greatestMix 4 = .ok (.iload_n 2, 1) := by decide +kernel
theorem dX7_greatestMix_5 : decode cX7_greatestMix 5 = .ok (.iadd, 1) := by decide +kernel
theorem dX7_greatestMix_6 : decode cX7_greatestMix 6 = .ok (.invokestatic 67, 3) := by decide +kernel
theorem dX7_greatestMix_9 : decode cX7_greatestMix 9 = .ok (.istore_n 3, 1) := by decide +kernel
theorem dX7_greatestMix_10 : decode cX7_greatestMix 10 = .ok (.iconst 0, 1) := by decide +kernel
theorem dX7_greatestMix_11 : decode cX7_greatestMix 11 = .ok (.istore 4, 2) := by decide +kernel
theorem dX7_greatestMix_13 : decode cX7_greatestMix 13 = .ok (.iload_n 1, 1) := by decide +kernel
theorem dX7_greatestMix_14 : decode cX7_greatestMix 14 = .ok (.istore 5, 2) := by decide +kernel
theorem dX7_greatestMix_16 : decode cX7_greatestMix 16 = .ok (.iload 5, 2) := by decide +kernel
theorem dX7_greatestMix_18 : decode cX7_greatestMix 18 = .ok (.iload_n 3, 1) := by decide +kernel
theorem dX7_greatestMix_19 : decode cX7_greatestMix 19 = .ok (.if_icmp .ge 22, 3) := by decide +kernel
theorem dX7_greatestMix_22 : decode cX7_greatestMix 22 = .ok (.iload 4, 2) := by decide +kernel
theorem dX7_greatestMix_24 : decode cX7_greatestMix 24 = .ok (.aload_n 0, 1) := by decide +kernel
theorem dX7_greatestMix_25 : decode cX7_greatestMix 25 = .ok (.iload 5, 2) := by decide +kernel
theorem dX7_greatestMix_27 : decode cX7_greatestMix 27 = .ok (.invokevirtual 125, 3) := by decide +kernel
theorem dX7_greatestMix_30 : decode cX7_greatestMix 30 = .ok (.invokestatic 72, 3) := by decide +kernel
theorem dX7_greatestMix_33 : decode cX7_greatestMix 33 = .ok (.istore 4, 2) := by decide +kernel
theorem dX7_greatestMix_35 : decode cX7_greatestMix 35 = .ok (.iinc 5 1, 3) := by decide +kernel
theorem dX7_greatestMix_38 : decode cX7_greatestMix 38 = .ok (.goto (-22), 3) := by decide +kernel
theorem dX7_greatestMix_41 : decode cX7_greatestMix 41 = .ok (.iload 4, 2) := by decide +kernel
theorem dX7_greatestMix_43 : decode cX7_greatestMix 43 = .ok (.ireturn, 1) := by decide +kernel
theorem dX7_frameOfGreatestMix_0 : decode cX7_frameOfGreatestMix 0 = .ok (.iconst 0, 1) := by decide +kernel
theorem dX7_frameOfGreatestMix_1 : decode cX7_frameOfGreatestMix 1 = .ok (.istore_n 1, 1) := by decide +kernel
theorem dX7_frameOfGreatestMix_2 : decode cX7_frameOfGreatestMix 2 = .ok (.iconst 1, 1) := by decide +kernel
theorem dX7_frameOfGreatestMix_3 : decode cX7_frameOfGreatestMix 3 = .ok (.istore_n 2, 1) := by decide +kernel
theorem dX7_frameOfGreatestMix_4 : decode cX7_frameOfGreatestMix 4 = .ok (.iload_n 2, 1) := by decide +kernel
theorem dX7_frameOfGreatestMix_5 : decode cX7_frameOfGreatestMix 5 = .ok (.sipush 600, 3) := by decide +kernel
theorem dX7_frameOfGreatestMix_8 : decode cX7_frameOfGreatestMix 8 = .ok (.if_icmp .ge 24, 3) := by decide +kernel
theorem dX7_frameOfGreatestMix_11 : decode cX7_frameOfGreatestMix 11 = .ok (.aload_n 0, 1) := by decide +kernel
theorem dX7_frameOfGreatestMix_12 : decode cX7_frameOfGreatestMix 12 = .ok (.iload_n 2, 1) := by decide +kernel
theorem dX7_frameOfGreatestMix_13 : decode cX7_frameOfGreatestMix 13 = .ok (.invokevirtual 125, 3) := by decide +kernel
theorem dX7_frameOfGreatestMix_16 : decode cX7_frameOfGreatestMix 16 = .ok (.aload_n 0, 1) := by decide +kernel
theorem dX7_frameOfGreatestMix_17 : decode cX7_frameOfGreatestMix 17 = .ok (.iload_n 1, 1) := by decide +kernel
theorem dX7_frameOfGreatestMix_18 : decode cX7_frameOfGreatestMix 18 = .ok (.invokevirtual 125, 3) := by decide +kernel
theorem dX7_frameOfGreatestMix_21 : decode cX7_frameOfGreatestMix 21 = .ok (.if_icmp .le 5, 3) := by decide +kernel
theorem dX7_frameOfGreatestMix_24 : decode cX7_frameOfGreatestMix 24 = .ok (.iload_n 2, 1) := by decide +kernel
theorem dX7_frameOfGreatestMix_25 : decode cX7_frameOfGreatestMix 25 = .ok (.istore_n 1, 1) := by decide +kernel
theorem dX7_frameOfGreatestMix_26 : decode cX7_frameOfGreatestMix 26 = .ok (.iinc 2 1, 3) := by decide +kernel
theorem dX7_frameOfGreatestMix_29 : decode cX7_frameOfGreatestMix 29 = .ok (.goto (-25), 3) := by decide +kernel
theorem dX7_frameOfGreatestMix_32 : decode cX7_frameOfGreatestMix 32 = .ok (.iload_n 1, 1) := by decide +kernel
theorem dX7_frameOfGreatestMix_33 : decode cX7_frameOfGreatestMix 33 = .ok (.ireturn, 1) := by decide +kernel
theorem dX7_framesOver_0 : decode cX7_framesOver 0 = .ok (.iconst 0, 1) := by decide +kernel
theorem dX7_framesOver_1 : decode cX7_framesOver 1 = .ok (.istore_n 1, 1) := by decide +kernel
theorem dX7_framesOver_2 : decode cX7_framesOver 2 = .ok (.iconst 0, 1) := by decide +kernel
theorem dX7_framesOver_3 : decode cX7_framesOver 3 = .ok (.istore_n 2, 1) := by decide +kernel
theorem dX7_framesOver_4 : decode cX7_framesOver 4 = .ok (.iload_n 2, 1) := by decide +kernel
theorem dX7_framesOver_5 : decode cX7_framesOver 5 = .ok (.sipush 600, 3) := by decide +kernel
theorem dX7_framesOver_8 : decode cX7_framesOver 8 = .ok (.if_icmp .ge 28, 3) := by decide +kernel
theorem dX7_framesOver_11 : decode cX7_framesOver 11 = .ok (.iload_n 1, 1) := by decide +kernel
theorem dX7_framesOver_12 : decode cX7_framesOver 12 = .ok (.aload_n 0, 1) := by decide +kernel
theorem dX7_framesOver_13 : decode cX7_framesOver 13 = .ok (.iload_n 2, 1) := by decide +kernel
theorem dX7_framesOver_14 : decode cX7_framesOver 14 = .ok (.invokevirtual 121, 3) := by decide +kernel
theorem dX7_framesOver_17 : decode cX7_framesOver 17 = .ok (.sipush 999, 3) := by decide +kernel
theorem dX7_framesOver_20 : decode cX7_framesOver 20 = .ok (.if_icmp .le 7, 3) := by decide +kernel
theorem dX7_framesOver_23 : decode cX7_framesOver 23 = .ok (.iconst 1, 1) := by decide +kernel
theorem dX7_framesOver_24 : decode cX7_framesOver 24 = .ok (.goto 4, 3) := by decide +kernel
theorem dX7_framesOver_27 : decode cX7_framesOver 27 = .ok (.iconst 0, 1) := by decide +kernel
theorem dX7_framesOver_28 : decode cX7_framesOver 28 = .ok (.iadd, 1) := by decide +kernel
theorem dX7_framesOver_29 : decode cX7_framesOver 29 = .ok (.istore_n 1, 1) := by decide +kernel
theorem dX7_framesOver_30 : decode cX7_framesOver 30 = .ok (.iinc 2 1, 3) := by decide +kernel
theorem dX7_framesOver_33 : decode cX7_framesOver 33 = .ok (.goto (-29), 3) := by decide +kernel
theorem dX7_framesOver_36 : decode cX7_framesOver 36 = .ok (.iload_n 1, 1) := by decide +kernel
theorem dX7_framesOver_37 : decode cX7_framesOver 37 = .ok (.ireturn, 1) := by decide +kernel
theorem dX7_sumOfMix_0 : decode cX7_sumOfMix 0 = .ok (.iconst 0, 1) := by decide +kernel
theorem dX7_sumOfMix_1 : decode cX7_sumOfMix 1 = .ok (.istore_n 1, 1) := by decide +kernel
theorem dX7_sumOfMix_2 : decode cX7_sumOfMix 2 = .ok (.iconst 0, 1) := by decide +kernel
theorem dX7_sumOfMix_3 : decode cX7_sumOfMix 3 = .ok (.istore_n 2, 1) := by decide +kernel
theorem dX7_sumOfMix_4 : decode cX7_sumOfMix 4 = .ok (.iload_n 2, 1) := by decide +kernel
theorem dX7_sumOfMix_5 : decode cX7_sumOfMix 5 = .ok (.sipush 600, 3) := by decide +kernel
theorem dX7_sumOfMix_8 : decode cX7_sumOfMix 8 = .ok (.if_icmp .ge 17, 3) := by decide +kernel
theorem dX7_sumOfMix_11 : decode cX7_sumOfMix 11 = .ok (.iload_n 1, 1) := by decide +kernel
theorem dX7_sumOfMix_12 : decode cX7_sumOfMix 12 = .ok (.aload_n 0, 1) := by decide +kernel
theorem dX7_sumOfMix_13 : decode cX7_sumOfMix 13 = .ok (.iload_n 2, 1) := by decide +kernel
theorem dX7_sumOfMix_14 : decode cX7_sumOfMix 14 = .ok (.invokevirtual 125, 3) := by decide +kernel
theorem dX7_sumOfMix_17 : decode cX7_sumOfMix 17 = .ok (.iadd, 1) := by decide +kernel
theorem dX7_sumOfMix_18 : decode cX7_sumOfMix 18 = .ok (.istore_n 1, 1) := by decide +kernel
theorem dX7_sumOfMix_19 : decode cX7_sumOfMix 19 = .ok (.iinc 2 1, 3) := by decide +kernel
theorem dX7_sumOfMix_22 : decode cX7_sumOfMix 22 = .ok (.goto (-18), 3) := by decide +kernel
theorem dX7_sumOfMix_25 : decode cX7_sumOfMix 25 = .ok (.iload_n 1, 1) := by decide +kernel
theorem dX7_sumOfMix_26 : decode cX7_sumOfMix 26 = .ok (.ireturn, 1) := by decide +kernel
theorem dX8_init_0 : decode cX8_init 0 = .ok (.aload_n 0, 1) := by decide +kernel
theorem dX8_init_1 : decode cX8_init 1 = .ok (.invokespecial 3, 3) := by decide +kernel
theorem dX8_init_4 : decode cX8_init 4 = .ok (.aload_n 0, 1) := by decide +kernel
theorem dX8_init_5 : decode cX8_init 5 = .ok (.bipush 96, 2) := by decide +kernel
theorem dX8_init_7 : decode cX8_init 7 = .ok (.newarray .int, 2) := by decide +kernel
theorem dX8_init_9 : decode cX8_init 9 = .ok (.putfield 9, 3) := by decide +kernel
theorem dX8_init_12 : decode cX8_init 12 = .ok (.return_, 1) := by decide +kernel
theorem dX8_add_0 : decode cX8_add 0 = .ok (.aload_n 0, 1) := by decide +kernel
theorem dX8_add_1 : decode cX8_add 1 = .ok (.getfield 15, 3) := by decide +kernel
theorem dX8_add_4 : decode cX8_add 4 = .ok (.bipush 96, 2) := by decide +kernel
theorem dX8_add_6 : decode cX8_add 6 = .ok (.if_icmp .ge 23, 3) := by decide +kernel
theorem dX8_add_9 : decode cX8_add 9 = .ok (.aload_n 0, 1) := by decide +kernel
theorem dX8_add_10 : decode cX8_add 10 = .ok (.getfield 9, 3) := by decide +kernel
theorem dX8_add_13 : decode cX8_add 13 = .ok (.aload_n 0, 1) := by decide +kernel
theorem dX8_add_14 : decode cX8_add 14 = .ok (.getfield 15, 3) := by decide +kernel
theorem dX8_add_17 : decode cX8_add 17 = .ok (.iload_n 1, 1) := by decide +kernel
theorem dX8_add_18 : decode cX8_add 18 = .ok (.iastore, 1) := by decide +kernel
theorem dX8_add_19 : decode cX8_add 19 = .ok (.aload_n 0, 1) := by decide +kernel
theorem dX8_add_20 : decode cX8_add 20 = .ok (.dup, 1) := by decide +kernel
theorem dX8_add_21 : decode cX8_add 21 = .ok (.getfield 15, 3) := by decide +kernel
theorem dX8_add_24 : decode cX8_add 24 = .ok (.iconst 1, 1) := by decide +kernel
theorem dX8_add_25 : decode cX8_add 25 = .ok (.iadd, 1) := by decide +kernel
theorem dX8_add_26 : decode cX8_add 26 = .ok (.putfield 15, 3) := by decide +kernel
theorem dX8_add_29 : decode cX8_add 29 = .ok (.return_, 1) := by decide +kernel
theorem dX8_addNumber_0 : decode cX8_addNumber 0 = .ok (.iload_n 1, 1) := by decide +kernel
theorem dX8_addNumber_1 : decode cX8_addNumber 1 = .ok (.bipush 100, 2) := by decide +kernel
theorem dX8_addNumber_3 : decode cX8_addNumber 3 = .ok (.if_icmp .lt 17, 3) := by decide +kernel
theorem dX8_addNumber_6 : decode cX8_addNumber 6 = .ok (.aload_n 0, 1) := by decide +kernel
theorem dX8_addNumber_7 : decode cX8_addNumber 7 = .ok (.bipush 48, 2) := by decide +kernel
theorem dX8_addNumber_9 : decode cX8_addNumber 9 = .ok (.iload_n 1, 1) := by decide +kernel
theorem dX8_addNumber_10 : decode cX8_addNumber 10 = .ok (.bipush 100, 2) := by decide +kernel
theorem dX8_addNumber_12 : decode cX8_addNumber 12 = .ok (.idiv, 1) := by decide +kernel
theorem dX8_addNumber_13 : decode cX8_addNumber 13 = .ok (.bipush 10, 2) := by decide +kernel
theorem dX8_addNumber_15 : decode cX8_addNumber 15 = .ok (.irem, 1) := by decide +kernel
theorem dX8_addNumber_16 : decode cX8_addNumber 16 = .ok (.iadd, 1) := by decide +kernel
theorem dX8_addNumber_17 : decode cX8_addNumber 17 = .ok (.invokevirtual 19, 3) := by decide +kernel
theorem dX8_addNumber_20 : decode cX8_addNumber 20 = .ok (.iload_n 1, 1) := by decide +kernel
theorem dX8_addNumber_21 : decode cX8_addNumber 21 = .ok (.bipush 10, 2) := by decide +kernel
theorem dX8_addNumber_23 : decode cX8_addNumber 23 = .ok (.if_icmp .lt 17, 3) := by decide +kernel
theorem dX8_addNumber_26 : decode cX8_addNumber 26 = .ok (.aload_n 0, 1) := by decide +kernel
theorem dX8_addNumber_27 : decode cX8_addNumber 27 = .ok (.bipush 48, 2) := by decide +kernel
theorem dX8_addNumber_29 : decode cX8_addNumber 29 = .ok (.iload_n 1, 1) := by decide +kernel
theorem dX8_addNumber_30 : decode cX8_addNumber 30 = .ok (.bipush 10, 2) := by decide +kernel
theorem dX8_addNumber_32 : decode cX8_addNumber 32 = .ok (.idiv, 1) := by decide +kernel
theorem dX8_addNumber_33 : decode cX8_addNumber 33 = .ok (.bipush 10, 2) := by decide +kernel
theorem dX8_addNumber_35 : decode cX8_addNumber 35 = .ok (.irem, 1) := by decide +kernel
theorem dX8_addNumber_36 : decode cX8_addNumber 36 = .ok (.iadd, 1) := by decide +kernel
theorem dX8_addNumber_37 : decode cX8_addNumber 37 = .ok (.invokevirtual 19, 3) := by decide +kernel
theorem dX8_addNumber_40 : decode cX8_addNumber 40 = .ok (.aload_n 0, 1) := by decide +kernel
theorem dX8_addNumber_41 : decode cX8_addNumber 41 = .ok (.bipush 48, 2) := by decide +kernel
theorem dX8_addNumber_43 : decode cX8_addNumber 43 = .ok (.iload_n 1, 1) := by decide +kernel
theorem dX8_addNumber_44 : decode cX8_addNumber 44 = .ok (.bipush 10, 2) := by decide +kernel
theorem dX8_addNumber_46 : decode cX8_addNumber 46 = .ok (.irem, 1) := by decide +kernel
theorem dX8_addNumber_47 : decode cX8_addNumber 47 = .ok (.iadd, 1) := by decide +kernel
theorem dX8_addNumber_48 : decode cX8_addNumber 48 = .ok (.invokevirtual 19, 3) := by decide +kernel
theorem dX8_addNumber_51 : decode cX8_addNumber 51 = .ok (.return_, 1) := by decide +kernel
theorem dX9_init_0 : decode cX9_init 0 = .ok (.aload_n 0, 1) := by decide +kernel
theorem dX9_init_1 : decode cX9_init 1 = .ok (.invokespecial 3, 3) := by decide +kernel
theorem dX9_init_4 : decode cX9_init 4 = .ok (.aload_n 0, 1) := by decide +kernel
theorem dX9_init_5 : decode cX9_init 5 = .ok (.new 9, 3) := by decide +kernel
theorem dX9_init_8 : decode cX9_init 8 = .ok (.dup, 1) := by decide +kernel
theorem dX9_init_9 : decode cX9_init 9 = .ok (.invokespecial 11, 3) := by decide +kernel
theorem dX9_init_12 : decode cX9_init 12 = .ok (.putfield 12, 3) := by decide +kernel
theorem dX9_init_15 : decode cX9_init 15 = .ok (.aload_n 0, 1) := by decide +kernel
theorem dX9_init_16 : decode cX9_init 16 = .ok (.new 9, 3) := by decide +kernel
theorem dX9_init_19 : decode cX9_init 19 = .ok (.dup, 1) := by decide +kernel
theorem dX9_init_20 : decode cX9_init 20 = .ok (.invokespecial 11, 3) := by decide +kernel
theorem dX9_init_23 : decode cX9_init 23 = .ok (.putfield 16, 3) := by decide +kernel
theorem dX9_init_26 : decode cX9_init 26 = .ok (.aload_n 0, 1) := by decide +kernel
theorem dX9_init_27 : decode cX9_init 27 = .ok (.new 9, 3) := by decide +kernel
theorem dX9_init_30 : decode cX9_init 30 = .ok (.dup, 1) := by decide +kernel
theorem dX9_init_31 : decode cX9_init 31 = .ok (.invokespecial 11, 3) := by decide +kernel
theorem dX9_init_34 : decode cX9_init 34 = .ok (.putfield 19, 3) := by decide +kernel
theorem dX9_init_37 : decode cX9_init 37 = .ok (.aload_n 0, 1) := by decide +kernel
theorem dX9_init_38 : decode cX9_init 38 = .ok (.new 22, 3) := by decide +kernel
theorem dX9_init_41 : decode cX9_init 41 = .ok (.dup, 1) := by decide +kernel
theorem dX9_init_42 : decode cX9_init 42 = .ok (.invokespecial 24, 3) := by decide +kernel
theorem dX9_init_45 : decode cX9_init 45 = .ok (.putfield 25, 3) := by decide +kernel
theorem dX9_init_48 : decode cX9_init 48 = .ok (.aload_n 0, 1) := by decide +kernel
theorem dX9_init_49 : decode cX9_init 49 = .ok (.new 29, 3) := by decide +kernel
theorem dX9_init_52 : decode cX9_init 52 = .ok (.dup, 1) := by decide +kernel
theorem dX9_init_53 : decode cX9_init 53 = .ok (.aload_n 0, 1) := by decide +kernel
theorem dX9_init_54 : decode cX9_init 54 = .ok (.getfield 12, 3) := by decide +kernel
theorem dX9_init_57 : decode cX9_init 57 = .ok (.invokespecial 31, 3) := by decide +kernel
theorem dX9_init_60 : decode cX9_init 60 = .ok (.putfield 34, 3) := by decide +kernel
theorem dX9_init_63 : decode cX9_init 63 = .ok (.aload_n 0, 1) := by decide +kernel
theorem dX9_init_64 : decode cX9_init 64 = .ok (.new 38, 3) := by decide +kernel
theorem dX9_init_67 : decode cX9_init 67 = .ok (.dup, 1) := by decide +kernel
theorem dX9_init_68 : decode cX9_init 68 = .ok (.aload_n 0, 1) := by decide +kernel
theorem dX9_init_69 : decode cX9_init 69 = .ok (.getfield 12, 3) := by decide +kernel
theorem dX9_init_72 : decode cX9_init 72 = .ok (.aload_n 0, 1) := by decide +kernel
theorem dX9_init_73 : decode cX9_init 73 = .ok (.getfield 34, 3) := by decide +kernel
theorem dX9_init_76 : decode cX9_init 76 = .ok (.invokespecial 40, 3) := by decide +kernel
theorem dX9_init_79 : decode cX9_init 79 = .ok (.putfield 43, 3) := by decide +kernel
theorem dX9_init_82 : decode cX9_init 82 = .ok (.aload_n 0, 1) := by decide +kernel
theorem dX9_init_83 : decode cX9_init 83 = .ok (.new 47, 3) := by decide +kernel
theorem dX9_init_86 : decode cX9_init 86 = .ok (.dup, 1) := by decide +kernel
theorem dX9_init_87 : decode cX9_init 87 = .ok (.aload_n 0, 1) := by decide +kernel
theorem dX9_init_88 : decode cX9_init 88 = .ok (.getfield 12, 3) := by decide +kernel
theorem dX9_init_91 : decode cX9_init 91 = .ok (.aload_n 0, 1) := by decide +kernel
theorem dX9_init_92 : decode cX9_init 92 = .ok (.getfield 34, 3) := by decide +kernel
theorem dX9_init_95 : decode cX9_init 95 = .ok (.invokespecial 49, 3) := by decide +kernel
theorem dX9_init_98 : decode cX9_init 98 = .ok (.putfield 50, 3) := by decide +kernel
theorem dX9_init_101 : decode cX9_init 101 = .ok (.aload_n 0, 1) := by decide +kernel
theorem dX9_init_102 : decode cX9_init 102 = .ok (.new 54, 3) := by decide +kernel
theorem dX9_init_105 : decode cX9_init 105 = .ok (.dup, 1) := by decide +kernel
theorem dX9_init_106 : decode cX9_init 106 = .ok (.invokespecial 56, 3) := by decide +kernel
theorem dX9_init_109 : decode cX9_init 109 = .ok (.putfield 57, 3) := by decide +kernel
theorem dX9_init_112 : decode cX9_init 112 = .ok (.aload_n 0, 1) := by decide +kernel
theorem dX9_init_113 : decode cX9_init 113 = .ok (.new 61, 3) := by decide +kernel
theorem dX9_init_116 : decode cX9_init 116 = .ok (.dup, 1) := by decide +kernel
theorem dX9_init_117 : decode cX9_init 117 = .ok (.invokespecial 63, 3) := by decide +kernel
theorem dX9_init_120 : decode cX9_init 120 = .ok (.putfield 64, 3) := by decide +kernel
theorem dX9_init_123 : decode cX9_init 123 = .ok (.return_, 1) := by decide +kernel
theorem dX9_addSource_0 : decode cX9_addSource 0 = .ok (.aload_n 0, 1) := by decide +kernel
theorem dX9_addSource_1 : decode cX9_addSource 1 = .ok (.aload_n 0, 1) := by decide +kernel
theorem dX9_addSource_2 : decode cX9_addSource 2 = .ok (.getfield 12, 3) := by decide +kernel
theorem dX9_addSource_5 : decode cX9_addSource 5 = .ok (.iload_n 1, 1) := by decide +kernel
theorem dX9_addSource_6 : decode cX9_addSource 6 = .ok (.iload_n 2, 1) := by decide +kernel
theorem dX9_addSource_7 : decode cX9_addSource 7 = .ok (.iload_n 3, 1) := by decide +kernel
theorem dX9_addSource_8 : decode cX9_addSource 8 = .ok (.iload 4, 2) := by decide +kernel
theorem dX9_addSource_10 : decode cX9_addSource 10 = .ok (.invokevirtual 68, 3) := by decide +kernel
theorem dX9_addSource_13 : decode cX9_addSource 13 = .ok (.invokevirtual 72, 3) := by decide +kernel
theorem dX9_addSource_16 : decode cX9_addSource 16 = .ok (.ireturn, 1) := by decide +kernel
theorem dX9_source_0 : decode cX9_source 0 = .ok (.aload_n 0, 1) := by decide +kernel
theorem dX9_source_1 : decode cX9_source 1 = .ok (.getfield 12, 3) := by decide +kernel
theorem dX9_source_4 : decode cX9_source 4 = .ok (.iload_n 1, 1) := by decide +kernel
theorem dX9_source_5 : decode cX9_source 5 = .ok (.invokevirtual 76, 3) := by decide +kernel
theorem dX9_source_8 : decode cX9_source 8 = .ok (.ifCond .ne 5, 3) := by decide +kernel
theorem dX9_source_11 : decode cX9_source 11 = .ok (.iconst (-1), 1) := by decide +kernel
theorem dX9_source_12 : decode cX9_source 12 = .ok (.ireturn, 1) := by decide +kernel
theorem dX9_source_13 : decode cX9_source 13 = .ok (.iload_n 2, 1) := by decide +kernel
theorem dX9_source_14 : decode cX9_source 14 = .ok (.ifCond .lt 8, 3) := by decide +kernel
theorem dX9_source_17 : decode cX9_source 17 = .ok (.iload_n 2, 1) := by decide +kernel
theorem dX9_source_18 : decode cX9_source 18 = .ok (.iconst 5, 1) := by decide +kernel
theorem dX9_source_19 : decode cX9_source 19 = .ok (.if_icmp .le 6, 3) := by decide +kernel
theorem dX9_source_22 : decode cX9_source 22 = .ok (.bipush (-2), 2) := by decide +kernel
theorem dX9_source_24 : decode cX9_source 24 = .ok (.ireturn, 1) := by decide +kernel
theorem dX9_source_25 : decode cX9_source 25 = .ok (.iload_n 2, 1) := by decide +kernel
theorem dX9_source_26 : decode cX9_source 26 = .ok (.iconst 4, 1) := by decide +kernel
theorem dX9_source_27 : decode cX9_source 27 = .ok (.if_icmp .ne 15, 3) := by decide +kernel
theorem dX9_source_30 : decode cX9_source 30 = .ok (.aload_n 0, 1) := by decide +kernel
theorem dX9_source_31 : decode cX9_source 31 = .ok (.getfield 12, 3) := by decide +kernel
theorem dX9_source_34 : decode cX9_source 34 = .ok (.getfield 80, 3) := by decide +kernel
theorem dX9_source_37 : decode cX9_source 37 = .ok (.iload_n 1, 1) := by decide +kernel
theorem dX9_source_38 : decode cX9_source 38 = .ok (.invokevirtual 84, 3) := by decide +kernel
theorem dX9_source_41 : decode cX9_source 41 = .ok (.ireturn, 1) := by decide +kernel
theorem dX9_source_42 : decode cX9_source 42 = .ok (.iload_n 2, 1) := by decide +kernel
theorem dX9_source_43 : decode cX9_source 43 = .ok (.iconst 5, 1) := by decide +kernel
theorem dX9_source_44 : decode cX9_source 44 = .ok (.if_icmp .ne 12, 3) := by decide +kernel
theorem dX9_source_47 : decode cX9_source 47 = .ok (.aload_n 0, 1) := by decide +kernel
theorem dX9_source_48 : decode cX9_source 48 = .ok (.invokevirtual 89, 3) := by decide +kernel
theorem dX9_source_51 : decode cX9_source 51 = .ok (.iload_n 1, 1) := by decide +kernel
theorem dX9_source_52 : decode cX9_source 52 = .ok (.invokevirtual 93, 3) := by decide +kernel
theorem dX9_source_55 : decode cX9_source 55 = .ok (.ireturn, 1) := by decide +kernel
theorem dX9_source_56 : decode cX9_source 56 = .ok (.aload_n 0, 1) := by decide +kernel
theorem dX9_source_57 : decode cX9_source 57 = .ok (.getfield 12, 3) := by decide +kernel
theorem dX9_source_60 : decode cX9_source 60 = .ok (.iload_n 1, 1) := by decide +kernel
theorem dX9_source_61 : decode cX9_source 61 = .ok (.iload_n 2, 1) := by decide +kernel
theorem dX9_source_62 : decode cX9_source 62 = .ok (.invokevirtual 96, 3) := by decide +kernel
theorem dX9_source_65 : decode cX9_source 65 = .ok (.ireturn, 1) := by decide +kernel
theorem dX9_sourceValue_0 : decode cX9_sourceValue 0 = .ok (.aload_n 0, 1) := by decide +kernel
theorem dX9_sourceValue_1 : decode cX9_sourceValue 1 = .ok (.getfield 12, 3) := by decide +kernel
theorem dX9_sourceValue_4 : decode cX9_sourceValue 4 = .ok (.iload_n 1, 1) := by decide +kernel
theorem dX9_sourceValue_5 : decode cX9_sourceValue 5 = .ok (.invokevirtual 76, 3) := by decide +kernel
theorem dX9_sourceValue_8 : decode cX9_sourceValue 8 = .ok (.ifCond .eq 20, 3) := by decide +kernel
theorem dX9_sourceValue_11 : decode cX9_sourceValue 11 = .ok (.iload_n 2, 1) := by decide +kernel
theorem dX9_sourceValue_12 : decode cX9_sourceValue 12 = .ok (.ifCond .lt 16, 3) := by decide +kernel
theorem dX9_sourceValue_15 : decode cX9_sourceValue 15 = .ok (.iload_n 2, 1) := by decide +kernel
theorem dX9_sourceValue_16 : decode cX9_sourceValue 16 = .ok (.aload_n 0, 1) := by decide +kernel
theorem dX9_sourceValue_17 : decode cX9_sourceValue 17 = .ok (.getfield 12, 3) := by decide +kernel
theorem dX9_sourceValue_20 : decode cX9_sourceValue 20 = .ok (.iload_n 1, 1) := by decide +kernel
theorem dX9_sourceValue_21 : decode cX9_sourceValue 21 = .ok (.iconst 1, 1) := by decide +kernel
theorem dX9_sourceValue_22 : decode cX9_sourceValue 22 = .ok (.invokevirtual 96, 3) := by decide +kernel
theorem dX9_sourceValue_25 : decode cX9_sourceValue 25 = .ok (.if_icmp .lt 5, 3) := by decide +kernel
theorem dX9_sourceValue_28 : decode cX9_sourceValue 28 = .ok (.iconst (-1), 1) := by decide +kernel
theorem dX9_sourceValue_29 : decode cX9_sourceValue 29 = .ok (.ireturn, 1) := by decide +kernel
theorem dX9_sourceValue_30 : decode cX9_sourceValue 30 = .ok (.aload_n 0, 1) := by decide +kernel
theorem dX9_sourceValue_31 : decode cX9_sourceValue 31 = .ok (.invokevirtual 89, 3) := by decide +kernel
theorem dX9_sourceValue_34 : decode cX9_sourceValue 34 = .ok (.iload_n 1, 1) := by decide +kernel
theorem dX9_sourceValue_35 : decode cX9_sourceValue 35 = .ok (.iload_n 2, 1) := by decide +kernel
theorem dX9_sourceValue_36 : decode cX9_sourceValue 36 = .ok (.invokevirtual 100, 3) := by decide +kernel
theorem dX9_sourceValue_39 : decode cX9_sourceValue 39 = .ok (.ireturn, 1) := by decide +kernel
theorem dX9_set_0 : decode cX9_set 0 = .ok (.aload_n 0, 1) := by decide +kernel
theorem dX9_set_1 : decode cX9_set 1 = .ok (.aload_n 0, 1) := by decide +kernel
theorem dX9_set_2 : decode cX9_set 2 = .ok (.getfield 12, 3) := by decide +kernel
theorem dX9_set_5 : decode cX9_set 5 = .ok (.iload_n 1, 1) := by decide +kernel
theorem dX9_set_6 : decode cX9_set 6 = .ok (.iload_n 2, 1) := by decide +kernel
theorem dX9_set_7 : decode cX9_set 7 = .ok (.invokevirtual 103, 3) := by decide +kernel
theorem dX9_set_10 : decode cX9_set 10 = .ok (.invokevirtual 72, 3) := by decide +kernel
theorem dX9_set_13 : decode cX9_set 13 = .ok (.ireturn, 1) := by decide +kernel
theorem dX9_setTrack_0 : decode cX9_setTrack 0 = .ok (.iload_n 1, 1) := by decide +kernel
theorem dX9_setTrack_1 : decode cX9_setTrack 1 = .ok (.invokestatic 106, 3) := by decide +kernel
theorem dX9_setTrack_4 : decode cX9_setTrack 4 = .ok (.ifCond .ne 5, 3) := by decide +kernel
theorem dX9_setTrack_7 : decode cX9_setTrack 7 = .ok (.iconst (-1), 1) := by decide +kernel
theorem dX9_setTrack_8 : decode cX9_setTrack 8 = .ok (.ireturn, 1) := by decide +kernel
theorem dX9_setTrack_9 : decode cX9_setTrack 9 = .ok (.aload_n 0, 1) := by decide +kernel
theorem dX9_setTrack_10 : decode cX9_setTrack 10 = .ok (.getfield 12, 3) := by decide +kernel
theorem dX9_setTrack_13 : decode cX9_setTrack 13 = .ok (.iload_n 1, 1) := by decide +kernel
theorem dX9_setTrack_14 : decode cX9_setTrack 14 = .ok (.iload_n 2, 1) := by decide +kernel
theorem dX9_setTrack_15 : decode cX9_setTrack 15 = .ok (.iload_n 3, 1) := by decide +kernel
theorem dX9_setTrack_16 : decode cX9_setTrack 16 = .ok (.invokevirtual 109, 3) := by decide +kernel
theorem dX9_setTrack_19 : decode cX9_setTrack 19 = .ok (.ifCond .ne 6, 3) := by decide +kernel
theorem dX9_setTrack_22 : decode cX9_setTrack 22 = .ok (.bipush (-2), 2) := by decide +kernel
theorem dX9_setTrack_24 : decode cX9_setTrack 24 = .ok (.ireturn, 1) := by decide +kernel
theorem dX9_setTrack_25 : decode cX9_setTrack 25 = .ok (.aload_n 0, 1) := by decide +kernel
theorem dX9_setTrack_26 : decode cX9_setTrack 26 = .ok (.iload_n 1, 1) := by decide +kernel
theorem dX9_setTrack_27 : decode cX9_setTrack 27 = .ok (.iload_n 2, 1) := by decide +kernel
theorem dX9_setTrack_28 : decode cX9_setTrack 28 = .ok (.invokevirtual 113, 3) := by decide +kernel
theorem dX9_setTrack_31 : decode cX9_setTrack 31 = .ok (.istore 4, 2) := by decide +kernel
theorem dX9_setTrack_33 : decode cX9_setTrack 33 = .ok (.aload_n 0, 1) := by decide +kernel
theorem dX9_setTrack_34 : decode cX9_setTrack 34 = .ok (.getfield 12, 3) := by decide +kernel
theorem dX9_setTrack_37 : decode cX9_setTrack 37 = .ok (.getfield 116, 3) := by decide +kernel
theorem dX9_setTrack_40 : decode cX9_setTrack 40 = .ok (.iload_n 1, 1) := by decide +kernel
theorem dX9_setTrack_41 : decode cX9_setTrack 41 = .ok (.bipush 7, 2) := by decide +kernel
theorem dX9_setTrack_43 : decode cX9_setTrack 43 = .ok (.imul, 1) := by decide +kernel
theorem dX9_setTrack_44 : decode cX9_setTrack 44 = .ok (.iload_n 2, 1) := by decide +kernel
theorem dX9_setTrack_45 : decode cX9_setTrack 45 = .ok (.iadd, 1) := by decide +kernel
theorem dX9_setTrack_46 : decode cX9_setTrack 46 = .ok (.iload_n 3, 1) := by decide +kernel
theorem dX9_setTrack_47 : decode cX9_setTrack 47 = .ok (.iastore, 1) := by decide +kernel
theorem dX9_setTrack_48 : decode cX9_setTrack 48 = .ok (.aload_n 0, 1) := by decide +kernel
theorem dX9_setTrack_49 : decode cX9_setTrack 49 = .ok (.invokevirtual 120, 3) := by decide +kernel
theorem dX9_setTrack_52 : decode cX9_setTrack 52 = .ok (.iload 4, 2) := by decide +kernel
theorem dX9_setTrack_54 : decode cX9_setTrack 54 = .ok (.ireturn, 1) := by decide +kernel
theorem dX9_track_0 : decode cX9_track 0 = .ok (.iload_n 1, 1) := by decide +kernel
theorem dX9_track_1 : decode cX9_track 1 = .ok (.invokestatic 106, 3) := by decide +kernel
theorem dX9_track_4 : decode cX9_track 4 = .ok (.ifCond .ne 5, 3) := by decide +kernel
theorem dX9_track_7 : decode cX9_track 7 = .ok (.iconst (-1), 1) := by decide +kernel
theorem dX9_track_8 : decode cX9_track 8 = .ok (.ireturn, 1) := by decide +kernel
theorem dX9_track_9 : decode cX9_track 9 = .ok (.iload_n 2, 1) := by decide +kernel
theorem dX9_track_10 : decode cX9_track 10 = .ok (.ifCond .lt 9, 3) := by decide +kernel
theorem dX9_track_13 : decode cX9_track 13 = .ok (.iload_n 2, 1) := by decide +kernel
theorem dX9_track_14 : decode cX9_track 14 = .ok (.bipush 11, 2) := by decide +kernel
theorem dX9_track_16 : decode cX9_track 16 = .ok (.if_icmp .le 6, 3) := by decide +kernel
theorem dX9_track_19 : decode cX9_track 19 = .ok (.bipush (-2), 2) := by decide +kernel
theorem dX9_track_21 : decode cX9_track 21 = .ok (.ireturn, 1) := by decide +kernel
theorem dX9_track_22 : decode cX9_track 22 = .ok (.iload_n 2, 1) := by decide +kernel
theorem dX9_track_23 : decode cX9_track 23 = .ok (.bipush 7, 2) := by decide +kernel
theorem dX9_track_25 : decode cX9_track 25 = .ok (.if_icmp .ge 10, 3) := by decide +kernel
theorem dX9_track_28 : decode cX9_track 28 = .ok (.aload_n 0, 1) := by decide +kernel
theorem dX9_track_29 : decode cX9_track 29 = .ok (.iload_n 1, 1) := by decide +kernel
theorem dX9_track_30 : decode cX9_track 30 = .ok (.iload_n 2, 1) := by decide +kernel
theorem dX9_track_31 : decode cX9_track 31 = .ok (.invokevirtual 113, 3) := by decide +kernel
theorem dX9_track_34 : decode cX9_track 34 = .ok (.ireturn, 1) := by decide +kernel
theorem dX9_track_35 : decode cX9_track 35 = .ok (.iload_n 2, 1) := by decide +kernel
theorem dX9_track_36 : decode cX9_track 36 = .ok (.tableswitch 82 7 10 #[32, 49, 61, 73], 32) := by decide +kernel
theorem dX9_track_68 : decode cX9_track 68 = .ok (.aload_n 0, 1) := by decide +kernel
theorem dX9_track_69 : decode cX9_track 69 = .ok (.getfield 12, 3) := by decide +kernel
theorem dX9_track_72 : decode cX9_track 72 = .ok (.iload_n 1, 1) := by decide +kernel
theorem dX9_track_73 : decode cX9_track 73 = .ok (.invokevirtual 123, 3) := by decide +kernel
theorem dX9_track_76 : decode cX9_track 76 = .ok (.ifCond .eq 7, 3) := by decide +kernel
theorem dX9_track_79 : decode cX9_track 79 = .ok (.iconst 1, 1) := by decide +kernel
theorem dX9_track_80 : decode cX9_track 80 = .ok (.goto 4, 3) := by decide +kernel
theorem dX9_track_83 : decode cX9_track 83 = .ok (.iconst 0, 1) := by decide +kernel
theorem dX9_track_84 : decode cX9_track 84 = .ok (.ireturn, 1) := by decide +kernel
theorem dX9_track_85 : decode cX9_track 85 = .ok (.aload_n 0, 1) := by decide +kernel
theorem dX9_track_86 : decode cX9_track 86 = .ok (.getfield 12, 3) := by decide +kernel
theorem dX9_track_89 : decode cX9_track 89 = .ok (.getfield 80, 3) := by decide +kernel
theorem dX9_track_92 : decode cX9_track 92 = .ok (.iload_n 1, 1) := by decide +kernel
theorem dX9_track_93 : decode cX9_track 93 = .ok (.invokevirtual 126, 3) := by decide +kernel
theorem dX9_track_96 : decode cX9_track 96 = .ok (.ireturn, 1) := by decide +kernel
theorem dX9_track_97 : decode cX9_track 97 = .ok (.aload_n 0, 1) := by decide +kernel
theorem dX9_track_98 : decode cX9_track 98 = .ok (.getfield 12, 3) := by decide +kernel
theorem dX9_track_101 : decode cX9_track 101 = .ok (.getfield 80, 3) := by decide +kernel
theorem dX9_track_104 : decode cX9_track 104 = .ok (.iload_n 1, 1) := by decide +kernel
theorem dX9_track_105 : decode cX9_track 105 = .ok (.invokevirtual 129, 3) := by decide +kernel
theorem dX9_track_108 : decode cX9_track 108 = .ok (.ireturn, 1) := by decide +kernel
theorem dX9_track_109 : decode cX9_track 109 = .ok (.aload_n 0, 1) := by decide +kernel
theorem dX9_track_110 : decode cX9_track 110 = .ok (.invokevirtual 89, 3) := by decide +kernel
theorem dX9_track_113 : decode cX9_track 113 = .ok (.iload_n 1, 1) := by decide +kernel
theorem dX9_track_114 : decode cX9_track 114 = .ok (.invokevirtual 132, 3) := by decide +kernel
theorem dX9_track_117 : decode cX9_track 117 = .ok (.ireturn, 1) := by decide +kernel
theorem dX9_track_118 : decode cX9_track 118 = .ok (.aload_n 0, 1) := by decide +kernel
theorem dX9_track_119 : decode cX9_track 119 = .ok (.invokevirtual 89, 3) := by decide +kernel
theorem dX9_track_122 : decode cX9_track 122 = .ok (.iload_n 1, 1) := by decide +kernel
theorem dX9_track_123 : decode cX9_track 123 = .ok (.invokevirtual 135, 3) := by decide +kernel
theorem dX9_track_126 : decode cX9_track 126 = .ok (.ireturn, 1) := by decide +kernel
theorem dX9_trackAnswer_0 : decode cX9_trackAnswer 0 = .ok (.aload_n 0, 1) := by decide +kernel
theorem dX9_trackAnswer_1 : decode cX9_trackAnswer 1 = .ok (.getfield 12, 3) := by decide +kernel
theorem dX9_trackAnswer_4 : decode cX9_trackAnswer 4 = .ok (.iload_n 1, 1) := by decide +kernel
theorem dX9_trackAnswer_5 : decode cX9_trackAnswer 5 = .ok (.iload_n 2, 1) := by decide +kernel
theorem dX9_trackAnswer_6 : decode cX9_trackAnswer 6 = .ok (.invokevirtual 138, 3) := by decide +kernel
theorem dX9_trackAnswer_9 : decode cX9_trackAnswer 9 = .ok (.istore_n 3, 1) := by decide +kernel
theorem dX9_trackAnswer_10 : decode cX9_trackAnswer 10 = .ok (.iload_n 2, 1) := by decide +kernel
theorem dX9_trackAnswer_11 : decode cX9_trackAnswer 11 = .ok (.iconst 3, 1) := by decide +kernel
theorem dX9_trackAnswer_12 : decode cX9_trackAnswer 12 = .ok (.if_icmp .ne 13, 3) := by decide +kernel
theorem dX9_trackAnswer_15 : decode cX9_trackAnswer 15 = .ok (.iload_n 3, 1) := by decide +kernel
theorem dX9_trackAnswer_16 : decode cX9_trackAnswer 16 = .ok (.iconst (-1), 1) := by decide +kernel
theorem dX9_trackAnswer_17 : decode cX9_trackAnswer 17 = .ok (.if_icmp .ne 8, 3) := by decide +kernel
theorem dX9_trackAnswer_20 : decode cX9_trackAnswer 20 = .ok (.bipush (-6), 2) := by decide +kernel
theorem dX9_trackAnswer_22 : decode cX9_trackAnswer 22 = .ok (.goto 4, 3) := by decide +kernel
theorem dX9_trackAnswer_25 : decode cX9_trackAnswer 25 = .ok (.iload_n 3, 1) := by decide +kernel
theorem dX9_trackAnswer_26 : decode cX9_trackAnswer 26 = .ok (.ireturn, 1) := by decide +kernel
theorem dX9_addClip_0 : decode cX9_addClip 0 = .ok (.aload_n 0, 1) := by decide +kernel
theorem dX9_addClip_1 : decode cX9_addClip 1 = .ok (.aload_n 0, 1) := by decide +kernel
theorem dX9_addClip_2 : decode cX9_addClip 2 = .ok (.getfield 12, 3) := by decide +kernel
theorem dX9_addClip_5 : decode cX9_addClip 5 = .ok (.iload_n 1, 1) := by decide +kernel
theorem dX9_addClip_6 : decode cX9_addClip 6 = .ok (.iload_n 2, 1) := by decide +kernel
theorem dX9_addClip_7 : decode cX9_addClip 7 = .ok (.iload_n 3, 1) := by decide +kernel
theorem dX9_addClip_8 : decode cX9_addClip 8 = .ok (.iload 4, 2) := by decide +kernel
theorem dX9_addClip_10 : decode cX9_addClip 10 = .ok (.iload 5, 2) := by decide +kernel
theorem dX9_addClip_12 : decode cX9_addClip 12 = .ok (.invokevirtual 141, 3) := by decide +kernel
theorem dX9_addClip_15 : decode cX9_addClip 15 = .ok (.invokevirtual 72, 3) := by decide +kernel
theorem dX9_addClip_18 : decode cX9_addClip 18 = .ok (.ireturn, 1) := by decide +kernel
theorem dX9_clip_0 : decode cX9_clip 0 = .ok (.aload_n 0, 1) := by decide +kernel
theorem dX9_clip_1 : decode cX9_clip 1 = .ok (.getfield 12, 3) := by decide +kernel
theorem dX9_clip_4 : decode cX9_clip 4 = .ok (.getfield 80, 3) := by decide +kernel
theorem dX9_clip_7 : decode cX9_clip 7 = .ok (.iload_n 1, 1) := by decide +kernel
theorem dX9_clip_8 : decode cX9_clip 8 = .ok (.invokevirtual 145, 3) := by decide +kernel
theorem dX9_clip_11 : decode cX9_clip 11 = .ok (.ifCond .ne 5, 3) := by decide +kernel
theorem dX9_clip_14 : decode cX9_clip 14 = .ok (.iconst (-1), 1) := by decide +kernel
theorem dX9_clip_15 : decode cX9_clip 15 = .ok (.ireturn, 1) := by decide +kernel
theorem dX9_clip_16 : decode cX9_clip 16 = .ok (.iload_n 2, 1) := by decide +kernel
theorem dX9_clip_17 : decode cX9_clip 17 = .ok (.ifCond .lt 9, 3) := by decide +kernel
theorem dX9_clip_20 : decode cX9_clip 20 = .ok (.iload_n 2, 1) := by decide +kernel
theorem dX9_clip_21 : decode cX9_clip 21 = .ok (.bipush 9, 2) := by decide +kernel
theorem dX9_clip_23 : decode cX9_clip 23 = .ok (.if_icmp .le 6, 3) := by decide +kernel
theorem dX9_clip_26 : decode cX9_clip 26 = .ok (.bipush (-2), 2) := by decide +kernel
theorem dX9_clip_28 : decode cX9_clip 28 = .ok (.ireturn, 1) := by decide +kernel
theorem dX9_clip_29 : decode cX9_clip 29 = .ok (.iload_n 2, 1) := by decide +kernel
theorem dX9_clip_30 : decode cX9_clip 30 = .ok (.bipush 8, 2) := by decide +kernel
theorem dX9_clip_32 : decode cX9_clip 32 = .ok (.if_icmp .ne 12, 3) := by decide +kernel
theorem dX9_clip_35 : decode cX9_clip 35 = .ok (.aload_n 0, 1) := by decide +kernel
theorem dX9_clip_36 : decode cX9_clip 36 = .ok (.invokevirtual 89, 3) := by decide +kernel
theorem dX9_clip_39 : decode cX9_clip 39 = .ok (.iload_n 1, 1) := by decide +kernel
theorem dX9_clip_40 : decode cX9_clip 40 = .ok (.invokevirtual 148, 3) := by decide +kernel
theorem dX9_clip_43 : decode cX9_clip 43 = .ok (.ireturn, 1) := by decide +kernel
theorem dX9_clip_44 : decode cX9_clip 44 = .ok (.iload_n 2, 1) := by decide +kernel
theorem dX9_clip_45 : decode cX9_clip 45 = .ok (.bipush 9, 2) := by decide +kernel
theorem dX9_clip_47 : decode cX9_clip 47 = .ok (.if_icmp .ne 12, 3) := by decide +kernel
theorem dX9_clip_50 : decode cX9_clip 50 = .ok (.aload_n 0, 1) := by decide +kernel
theorem dX9_clip_51 : decode cX9_clip 51 = .ok (.invokevirtual 89, 3) := by decide +kernel
theorem dX9_clip_54 : decode cX9_clip 54 = .ok (.iload_n 1, 1) := by decide +kernel
theorem dX9_clip_55 : decode cX9_clip 55 = .ok (.invokevirtual 151, 3) := by decide +kernel
theorem dX9_clip_58 : decode cX9_clip 58 = .ok (.ireturn, 1) := by decide +kernel
theorem dX9_clip_59 : decode cX9_clip 59 = .ok (.aload_n 0, 1) := by decide +kernel
theorem dX9_clip_60 : decode cX9_clip 60 = .ok (.getfield 12, 3) := by decide +kernel
theorem dX9_clip_63 : decode cX9_clip 63 = .ok (.getfield 80, 3) := by decide +kernel
theorem dX9_clip_66 : decode cX9_clip 66 = .ok (.iload_n 1, 1) := by decide +kernel
theorem dX9_clip_67 : decode cX9_clip 67 = .ok (.iload_n 2, 1) := by decide +kernel
theorem dX9_clip_68 : decode cX9_clip 68 = .ok (.invokevirtual 154, 3) := by decide +kernel
theorem dX9_clip_71 : decode cX9_clip 71 = .ok (.ireturn, 1) := by decide +kernel
theorem dX9_setClip_0 : decode cX9_setClip 0 = .ok (.aload_n 0, 1) := by decide +kernel
theorem dX9_setClip_1 : decode cX9_setClip 1 = .ok (.aload_n 0, 1) := by decide +kernel
theorem dX9_setClip_2 : decode cX9_setClip 2 = .ok (.getfield 12, 3) := by decide +kernel
theorem dX9_setClip_5 : decode cX9_setClip 5 = .ok (.getfield 80, 3) := by decide +kernel
theorem dX9_setClip_8 : decode cX9_setClip 8 = .ok (.iload_n 1, 1) := by decide +kernel
theorem dX9_setClip_9 : decode cX9_setClip 9 = .ok (.iload_n 2, 1) := by decide +kernel
theorem dX9_setClip_10 : decode cX9_setClip 10 = .ok (.iload_n 3, 1) := by decide +kernel
theorem dX9_setClip_11 : decode cX9_setClip 11 = .ok (.invokevirtual 157, 3) := by decide +kernel
theorem dX9_setClip_14 : decode cX9_setClip 14 = .ok (.invokevirtual 72, 3) := by decide +kernel
theorem dX9_setClip_17 : decode cX9_setClip 17 = .ok (.ireturn, 1) := by decide +kernel
theorem dX9_moveClip_0 : decode cX9_moveClip 0 = .ok (.aload_n 0, 1) := by decide +kernel
theorem dX9_moveClip_1 : decode cX9_moveClip 1 = .ok (.aload_n 0, 1) := by decide +kernel
theorem dX9_moveClip_2 : decode cX9_moveClip 2 = .ok (.getfield 12, 3) := by decide +kernel
theorem dX9_moveClip_5 : decode cX9_moveClip 5 = .ok (.getfield 80, 3) := by decide +kernel
theorem dX9_moveClip_8 : decode cX9_moveClip 8 = .ok (.iload_n 1, 1) := by decide +kernel
theorem dX9_moveClip_9 : decode cX9_moveClip 9 = .ok (.iload_n 2, 1) := by decide +kernel
theorem dX9_moveClip_10 : decode cX9_moveClip 10 = .ok (.iload_n 3, 1) := by decide +kernel
theorem dX9_moveClip_11 : decode cX9_moveClip 11 = .ok (.invokevirtual 161, 3) := by decide +kernel
theorem dX9_moveClip_14 : decode cX9_moveClip 14 = .ok (.invokevirtual 72, 3) := by decide +kernel
theorem dX9_moveClip_17 : decode cX9_moveClip 17 = .ok (.ireturn, 1) := by decide +kernel
theorem dX9_trim_0 : decode cX9_trim 0 = .ok (.aload_n 0, 1) := by decide +kernel
theorem dX9_trim_1 : decode cX9_trim 1 = .ok (.aload_n 0, 1) := by decide +kernel
theorem dX9_trim_2 : decode cX9_trim 2 = .ok (.getfield 12, 3) := by decide +kernel
theorem dX9_trim_5 : decode cX9_trim 5 = .ok (.iload_n 1, 1) := by decide +kernel
theorem dX9_trim_6 : decode cX9_trim 6 = .ok (.iload_n 2, 1) := by decide +kernel
theorem dX9_trim_7 : decode cX9_trim 7 = .ok (.iload_n 3, 1) := by decide +kernel
theorem dX9_trim_8 : decode cX9_trim 8 = .ok (.invokevirtual 164, 3) := by decide +kernel
theorem dX9_trim_11 : decode cX9_trim 11 = .ok (.invokevirtual 72, 3) := by decide +kernel
theorem dX9_trim_14 : decode cX9_trim 14 = .ok (.ireturn, 1) := by decide +kernel
theorem dX9_divide_0 : decode cX9_divide 0 = .ok (.aload_n 0, 1) := by decide +kernel
theorem dX9_divide_1 : decode cX9_divide 1 = .ok (.aload_n 0, 1) := by decide +kernel
theorem dX9_divide_2 : decode cX9_divide 2 = .ok (.getfield 12, 3) := by decide +kernel
theorem dX9_divide_5 : decode cX9_divide 5 = .ok (.getfield 80, 3) := by decide +kernel
theorem dX9_divide_8 : decode cX9_divide 8 = .ok (.iload_n 1, 1) := by decide +kernel
theorem dX9_divide_9 : decode cX9_divide 9 = .ok (.iload_n 2, 1) := by decide +kernel
theorem dX9_divide_10 : decode cX9_divide 10 = .ok (.invokevirtual 167, 3) := by decide +kernel
theorem dX9_divide_13 : decode cX9_divide 13 = .ok (.invokevirtual 72, 3) := by decide +kernel
theorem dX9_divide_16 : decode cX9_divide 16 = .ok (.ireturn, 1) := by decide +kernel
theorem dX9_remove_0 : decode cX9_remove 0 = .ok (.aload_n 0, 1) := by decide +kernel
theorem dX9_remove_1 : decode cX9_remove 1 = .ok (.aload_n 0, 1) := by decide +kernel
theorem dX9_remove_2 : decode cX9_remove 2 = .ok (.getfield 12, 3) := by decide +kernel
theorem dX9_remove_5 : decode cX9_remove 5 = .ok (.getfield 80, 3) := by decide +kernel
theorem dX9_remove_8 : decode cX9_remove 8 = .ok (.iload_n 1, 1) := by decide +kernel
theorem dX9_remove_9 : decode cX9_remove 9 = .ok (.invokevirtual 170, 3) := by decide +kernel
theorem dX9_remove_12 : decode cX9_remove 12 = .ok (.invokevirtual 72, 3) := by decide +kernel
theorem dX9_remove_15 : decode cX9_remove 15 = .ok (.ireturn, 1) := by decide +kernel
theorem dX9_room_0 : decode cX9_room 0 = .ok (.iload_n 1, 1) := by decide +kernel
theorem dX9_room_1 : decode cX9_room 1 = .ok (.invokestatic 106, 3) := by decide +kernel
theorem dX9_room_4 : decode cX9_room 4 = .ok (.ifCond .ne 5, 3) := by decide +kernel
theorem dX9_room_7 : decode cX9_room 7 = .ok (.iconst (-1), 1) := by decide +kernel
theorem dX9_room_8 : decode cX9_room 8 = .ok (.ireturn, 1) := by decide +kernel
theorem dX9_room_9 : decode cX9_room 9 = .ok (.iload_n 2, 1) := by decide +kernel
theorem dX9_room_10 : decode cX9_room 10 = .ok (.invokestatic 173, 3) := by decide +kernel
theorem dX9_room_13 : decode cX9_room 13 = .ok (.ifCond .eq 15, 3) := by decide +kernel
theorem dX9_room_16 : decode cX9_room 16 = .ok (.iload_n 3, 1) := by decide +kernel
theorem dX9_room_17 : decode cX9_room 17 = .ok (.iconst 1, 1) := by decide +kernel
theorem dX9_room_18 : decode cX9_room 18 = .ok (.if_icmp .lt 10, 3) := by decide +kernel
theorem dX9_room_21 : decode cX9_room 21 = .ok (.iload_n 3, 1) := by decide +kernel
theorem dX9_room_22 : decode cX9_room 22 = .ok (.sipush 600, 3) := by decide +kernel
theorem dX9_room_25 : decode cX9_room 25 = .ok (.if_icmp .le 6, 3) := by decide +kernel
theorem dX9_room_28 : decode cX9_room 28 = .ok (.bipush (-2), 2) := by decide +kernel
theorem dX9_room_30 : decode cX9_room 30 = .ok (.ireturn, 1) := by decide +kernel
theorem dX9_room_31 : decode cX9_room 31 = .ok (.iload_n 2, 1) := by decide +kernel
theorem dX9_room_32 : decode cX9_room 32 = .ok (.istore 4, 2) := by decide +kernel
theorem dX9_room_34 : decode cX9_room 34 = .ok (.iload 4, 2) := by decide +kernel
theorem dX9_room_36 : decode cX9_room 36 = .ok (.sipush 600, 3) := by decide +kernel
theorem dX9_room_39 : decode cX9_room 39 = .ok (.iload_n 3, 1) := by decide +kernel
theorem dX9_room_40 : decode cX9_room 40 = .ok (.isub, 1) := by decide +kernel
theorem dX9_room_41 : decode cX9_room 41 = .ok (.if_icmp .gt 30, 3) := by decide +kernel
theorem dX9_room_44 : decode cX9_room 44 = .ok (.aload_n 0, 1) := by decide +kernel
theorem dX9_room_45 : decode cX9_room 45 = .ok (.getfield 12, 3) := by decide +kernel
theorem dX9_room_48 : decode cX9_room 48 = .ok (.getfield 80, 3) := by decide +kernel
theorem dX9_room_51 : decode cX9_room 51 = .ok (.iload_n 1, 1) := by decide +kernel
theorem dX9_room_52 : decode cX9_room 52 = .ok (.iload 4, 2) := by decide +kernel
theorem dX9_room_54 : decode cX9_room 54 = .ok (.iload_n 3, 1) := by decide +kernel
theorem dX9_room_55 : decode cX9_room 55 = .ok (.iconst (-1), 1) := by decide +kernel
theorem dX9_room_56 : decode cX9_room 56 = .ok (.invokevirtual 176, 3) := by decide +kernel
theorem dX9_room_59 : decode cX9_room 59 = .ok (.ifCond .eq 6, 3) := by decide +kernel
theorem dX9_room_62 : decode cX9_room 62 = .ok (.iload 4, 2) := by decide +kernel
theorem dX9_room_64 : decode cX9_room 64 = .ok (.ireturn, 1) := by decide +kernel
theorem dX9_room_65 : decode cX9_room 65 = .ok (.iinc 4 1, 3) := by decide +kernel
theorem dX9_room_68 : decode cX9_room 68 = .ok (.goto (-34), 3) := by decide +kernel
theorem dX9_room_71 : decode cX9_room 71 = .ok (.bipush (-6), 2) := by decide +kernel
theorem dX9_room_73 : decode cX9_room 73 = .ok (.ireturn, 1) := by decide +kernel
theorem dX9_copyClip_0 : decode cX9_copyClip 0 = .ok (.aload_n 0, 1) := by decide +kernel
theorem dX9_copyClip_1 : decode cX9_copyClip 1 = .ok (.aload_n 0, 1) := by decide +kernel
theorem dX9_copyClip_2 : decode cX9_copyClip 2 = .ok (.getfield 12, 3) := by decide +kernel
theorem dX9_copyClip_5 : decode cX9_copyClip 5 = .ok (.getfield 80, 3) := by decide +kernel
theorem dX9_copyClip_8 : decode cX9_copyClip 8 = .ok (.iload_n 1, 1) := by decide +kernel
theorem dX9_copyClip_9 : decode cX9_copyClip 9 = .ok (.iload_n 2, 1) := by decide +kernel
theorem dX9_copyClip_10 : decode cX9_copyClip 10 = .ok (.iload_n 3, 1) := by decide +kernel
theorem dX9_copyClip_11 : decode cX9_copyClip 11 = .ok (.invokevirtual 180, 3) := by decide +kernel
theorem dX9_copyClip_14 : decode cX9_copyClip 14 = .ok (.invokevirtual 72, 3) := by decide +kernel
theorem dX9_copyClip_17 : decode cX9_copyClip 17 = .ok (.ireturn, 1) := by decide +kernel
theorem dX9_clipAt_0 : decode cX9_clipAt 0 = .ok (.iload_n 1, 1) := by decide +kernel
theorem dX9_clipAt_1 : decode cX9_clipAt 1 = .ok (.invokestatic 106, 3) := by decide +kernel
theorem dX9_clipAt_4 : decode cX9_clipAt 4 = .ok (.ifCond .eq 10, 3) := by decide +kernel
theorem dX9_clipAt_7 : decode cX9_clipAt 7 = .ok (.iload_n 2, 1) := by decide +kernel
theorem dX9_clipAt_8 : decode cX9_clipAt 8 = .ok (.invokestatic 173, 3) := by decide +kernel
theorem dX9_clipAt_11 : decode cX9_clipAt 11 = .ok (.ifCond .ne 5, 3) := by decide +kernel
theorem dX9_clipAt_14 : decode cX9_clipAt 14 = .ok (.iconst (-1), 1) := by decide +kernel
theorem dX9_clipAt_15 : decode cX9_clipAt 15 = .ok (.ireturn, 1) := by decide +kernel
theorem dX9_clipAt_16 : decode cX9_clipAt 16 = .ok (.aload_n 0, 1) := by decide +kernel
theorem dX9_clipAt_17 : decode cX9_clipAt 17 = .ok (.getfield 12, 3) := by decide +kernel
theorem dX9_clipAt_20 : decode cX9_clipAt 20 = .ok (.getfield 80, 3) := by decide +kernel
theorem dX9_clipAt_23 : decode cX9_clipAt 23 = .ok (.iload_n 1, 1) := by decide +kernel
theorem dX9_clipAt_24 : decode cX9_clipAt 24 = .ok (.iload_n 2, 1) := by decide +kernel
theorem dX9_clipAt_25 : decode cX9_clipAt 25 = .ok (.invokevirtual 183, 3) := by decide +kernel
theorem dX9_clipAt_28 : decode cX9_clipAt 28 = .ok (.istore_n 3, 1) := by decide +kernel
theorem dX9_clipAt_29 : decode cX9_clipAt 29 = .ok (.iload_n 3, 1) := by decide +kernel
theorem dX9_clipAt_30 : decode cX9_clipAt 30 = .ok (.ifCond .ge 8, 3) := by decide +kernel
theorem dX9_clipAt_33 : decode cX9_clipAt 33 = .ok (.bipush (-6), 2) := by decide +kernel
theorem dX9_clipAt_35 : decode cX9_clipAt 35 = .ok (.goto 4, 3) := by decide +kernel
theorem dX9_clipAt_38 : decode cX9_clipAt 38 = .ok (.iload_n 3, 1) := by decide +kernel
theorem dX9_clipAt_39 : decode cX9_clipAt 39 = .ok (.ireturn, 1) := by decide +kernel
theorem dX9_explain_0 : decode cX9_explain 0 = .ok (.iload_n 1, 1) := by decide +kernel
theorem dX9_explain_1 : decode cX9_explain 1 = .ok (.invokestatic 106, 3) := by decide +kernel
theorem dX9_explain_4 : decode cX9_explain 4 = .ok (.ifCond .eq 10, 3) := by decide +kernel
theorem dX9_explain_7 : decode cX9_explain 7 = .ok (.iload_n 2, 1) := by decide +kernel
theorem dX9_explain_8 : decode cX9_explain 8 = .ok (.invokestatic 173, 3) := by decide +kernel
theorem dX9_explain_11 : decode cX9_explain 11 = .ok (.ifCond .ne 5, 3) := by decide +kernel
theorem dX9_explain_14 : decode cX9_explain 14 = .ok (.iconst (-1), 1) := by decide +kernel
theorem dX9_explain_15 : decode cX9_explain 15 = .ok (.ireturn, 1) := by decide +kernel
theorem dX9_explain_16 : decode cX9_explain 16 = .ok (.aload_n 0, 1) := by decide +kernel
theorem dX9_explain_17 : decode cX9_explain 17 = .ok (.getfield 12, 3) := by decide +kernel
theorem dX9_explain_20 : decode cX9_explain 20 = .ok (.getfield 80, 3) := by decide +kernel
theorem dX9_explain_23 : decode cX9_explain 23 = .ok (.iload_n 1, 1) := by decide +kernel
theorem dX9_explain_24 : decode cX9_explain 24 = .ok (.iload_n 2, 1) := by decide +kernel
theorem dX9_explain_25 : decode cX9_explain 25 = .ok (.invokevirtual 183, 3) := by decide +kernel
theorem dX9_explain_28 : decode cX9_explain 28 = .ok (.istore_n 3, 1) := by decide +kernel
theorem dX9_explain_29 : decode cX9_explain 29 = .ok (.iload_n 3, 1) := by decide +kernel
theorem dX9_explain_30 : decode cX9_explain 30 = .ok (.ifCond .ge 5, 3) := by decide +kernel
theorem dX9_explain_33 : decode cX9_explain 33 = .ok (.iconst 1, 1) := by decide +kernel
theorem dX9_explain_34 : decode cX9_explain 34 = .ok (.ireturn, 1) := by decide +kernel
theorem dX9_explain_35 : decode cX9_explain 35 = .ok (.aload_n 0, 1) := by decide +kernel
theorem dX9_explain_36 : decode cX9_explain 36 = .ok (.getfield 12, 3) := by decide +kernel
theorem dX9_explain_39 : decode cX9_explain 39 = .ok (.iload_n 1, 1) := by decide +kernel
theorem dX9_explain_40 : decode cX9_explain 40 = .ok (.iconst 1, 1) := by decide +kernel
theorem dX9_explain_41 : decode cX9_explain 41 = .ok (.invokevirtual 138, 3) := by decide +kernel
theorem dX9_explain_44 : decode cX9_explain 44 = .ok (.iconst 1, 1) := by decide +kernel
theorem dX9_explain_45 : decode cX9_explain 45 = .ok (.if_icmp .ne 5, 3) := by decide +kernel
theorem dX9_explain_48 : decode cX9_explain 48 = .ok (.iconst 2, 1) := by decide +kernel
theorem dX9_explain_49 : decode cX9_explain 49 = .ok (.ireturn, 1) := by decide +kernel
theorem dX9_explain_50 : decode cX9_explain 50 = .ok (.aload_n 0, 1) := by decide +kernel
theorem dX9_explain_51 : decode cX9_explain 51 = .ok (.getfield 12, 3) := by decide +kernel
theorem dX9_explain_54 : decode cX9_explain 54 = .ok (.iload_n 1, 1) := by decide +kernel
theorem dX9_explain_55 : decode cX9_explain 55 = .ok (.invokevirtual 123, 3) := by decide +kernel
theorem dX9_explain_58 : decode cX9_explain 58 = .ok (.ifCond .ne 5, 3) := by decide +kernel
theorem dX9_explain_61 : decode cX9_explain 61 = .ok (.iconst 3, 1) := by decide +kernel
theorem dX9_explain_62 : decode cX9_explain 62 = .ok (.ireturn, 1) := by decide +kernel
theorem dX9_explain_63 : decode cX9_explain 63 = .ok (.aload_n 0, 1) := by decide +kernel
theorem dX9_explain_64 : decode cX9_explain 64 = .ok (.invokevirtual 89, 3) := by decide +kernel
theorem dX9_explain_67 : decode cX9_explain 67 = .ok (.iload_n 1, 1) := by decide +kernel
theorem dX9_explain_68 : decode cX9_explain 68 = .ok (.iload_n 2, 1) := by decide +kernel
theorem dX9_explain_69 : decode cX9_explain 69 = .ok (.invokevirtual 186, 3) := by decide +kernel
theorem dX9_explain_72 : decode cX9_explain 72 = .ok (.ifCond .eq 5, 3) := by decide +kernel
theorem dX9_explain_75 : decode cX9_explain 75 = .ok (.iconst 4, 1) := by decide +kernel
theorem dX9_explain_76 : decode cX9_explain 76 = .ok (.ireturn, 1) := by decide +kernel
theorem dX9_explain_77 : decode cX9_explain 77 = .ok (.aload_n 0, 1) := by decide +kernel
theorem dX9_explain_78 : decode cX9_explain 78 = .ok (.getfield 12, 3) := by decide +kernel
theorem dX9_explain_81 : decode cX9_explain 81 = .ok (.getfield 80, 3) := by decide +kernel
theorem dX9_explain_84 : decode cX9_explain 84 = .ok (.iload_n 3, 1) := by decide +kernel
theorem dX9_explain_85 : decode cX9_explain 85 = .ok (.iload_n 2, 1) := by decide +kernel
theorem dX9_explain_86 : decode cX9_explain 86 = .ok (.invokevirtual 190, 3) := by decide +kernel
theorem dX9_explain_89 : decode cX9_explain 89 = .ok (.ifCond .eq 7, 3) := by decide +kernel
theorem dX9_explain_92 : decode cX9_explain 92 = .ok (.iconst 5, 1) := by decide +kernel
theorem dX9_explain_93 : decode cX9_explain 93 = .ok (.goto 4, 3) := by decide +kernel
theorem dX9_explain_96 : decode cX9_explain 96 = .ok (.iconst 0, 1) := by decide +kernel
theorem dX9_explain_97 : decode cX9_explain 97 = .ok (.ireturn, 1) := by decide +kernel
theorem dX9_cut_0 : decode cX9_cut 0 = .ok (.aload_n 0, 1) := by decide +kernel
theorem dX9_cut_1 : decode cX9_cut 1 = .ok (.aload_n 0, 1) := by decide +kernel
theorem dX9_cut_2 : decode cX9_cut 2 = .ok (.getfield 12, 3) := by decide +kernel
theorem dX9_cut_5 : decode cX9_cut 5 = .ok (.iload_n 1, 1) := by decide +kernel
theorem dX9_cut_6 : decode cX9_cut 6 = .ok (.iload_n 2, 1) := by decide +kernel
theorem dX9_cut_7 : decode cX9_cut 7 = .ok (.invokevirtual 193, 3) := by decide +kernel
theorem dX9_cut_10 : decode cX9_cut 10 = .ok (.invokevirtual 72, 3) := by decide +kernel
theorem dX9_cut_13 : decode cX9_cut 13 = .ok (.ireturn, 1) := by decide +kernel
theorem dX9_insert_0 : decode cX9_insert 0 = .ok (.aload_n 0, 1) := by decide +kernel
theorem dX9_insert_1 : decode cX9_insert 1 = .ok (.aload_n 0, 1) := by decide +kernel
theorem dX9_insert_2 : decode cX9_insert 2 = .ok (.getfield 12, 3) := by decide +kernel
theorem dX9_insert_5 : decode cX9_insert 5 = .ok (.iload_n 1, 1) := by decide +kernel
theorem dX9_insert_6 : decode cX9_insert 6 = .ok (.iload_n 2, 1) := by decide +kernel
theorem dX9_insert_7 : decode cX9_insert 7 = .ok (.invokevirtual 196, 3) := by decide +kernel
theorem dX9_insert_10 : decode cX9_insert 10 = .ok (.invokevirtual 72, 3) := by decide +kernel
theorem dX9_insert_13 : decode cX9_insert 13 = .ok (.ireturn, 1) := by decide +kernel
theorem dX9_chapter_0 : decode cX9_chapter 0 = .ok (.aload_n 0, 1) := by decide +kernel
theorem dX9_chapter_1 : decode cX9_chapter 1 = .ok (.aload_n 0, 1) := by decide +kernel
theorem dX9_chapter_2 : decode cX9_chapter 2 = .ok (.getfield 12, 3) := by decide +kernel
theorem dX9_chapter_5 : decode cX9_chapter 5 = .ok (.getfield 199, 3) := by decide +kernel
theorem dX9_chapter_8 : decode cX9_chapter 8 = .ok (.iload_n 1, 1) := by decide +kernel
theorem dX9_chapter_9 : decode cX9_chapter 9 = .ok (.iload_n 2, 1) := by decide +kernel
theorem dX9_chapter_10 : decode cX9_chapter 10 = .ok (.invokevirtual 203, 3) := by decide +kernel
theorem dX9_chapter_13 : decode cX9_chapter 13 = .ok (.invokevirtual 72, 3) := by decide +kernel
theorem dX9_chapter_16 : decode cX9_chapter 16 = .ok (.ireturn, 1) := by decide +kernel
theorem dX9_dropChapter_0 : decode cX9_dropChapter 0 = .ok (.aload_n 0, 1) := by decide +kernel
theorem dX9_dropChapter_1 : decode cX9_dropChapter 1 = .ok (.aload_n 0, 1) := by decide +kernel
theorem dX9_dropChapter_2 : decode cX9_dropChapter 2 = .ok (.getfield 12, 3) := by decide +kernel
theorem dX9_dropChapter_5 : decode cX9_dropChapter 5 = .ok (.getfield 199, 3) := by decide +kernel
theorem dX9_dropChapter_8 : decode cX9_dropChapter 8 = .ok (.iload_n 1, 1) := by decide +kernel
theorem dX9_dropChapter_9 : decode cX9_dropChapter 9 = .ok (.invokevirtual 208, 3) := by decide +kernel
theorem dX9_dropChapter_12 : decode cX9_dropChapter 12 = .ok (.invokevirtual 72, 3) := by decide +kernel
theorem dX9_dropChapter_15 : decode cX9_dropChapter 15 = .ok (.ireturn, 1) := by decide +kernel
theorem dX9_ofChapter_0 : decode cX9_ofChapter 0 = .ok (.aload_n 0, 1) := by decide +kernel
theorem dX9_ofChapter_1 : decode cX9_ofChapter 1 = .ok (.getfield 12, 3) := by decide +kernel
theorem dX9_ofChapter_4 : decode cX9_ofChapter 4 = .ok (.getfield 199, 3) := by decide +kernel
theorem dX9_ofChapter_7 : decode cX9_ofChapter 7 = .ok (.iload_n 1, 1) := by decide +kernel
theorem dX9_ofChapter_8 : decode cX9_ofChapter 8 = .ok (.invokevirtual 209, 3) := by decide +kernel
theorem dX9_ofChapter_11 : decode cX9_ofChapter 11 = .ok (.ifCond .ne 5, 3) := by decide +kernel
theorem dX9_ofChapter_14 : decode cX9_ofChapter 14 = .ok (.iconst (-1), 1) := by decide +kernel
theorem dX9_ofChapter_15 : decode cX9_ofChapter 15 = .ok (.ireturn, 1) := by decide +kernel
theorem dX9_ofChapter_16 : decode cX9_ofChapter 16 = .ok (.iload_n 2, 1) := by decide +kernel
theorem dX9_ofChapter_17 : decode cX9_ofChapter 17 = .ok (.ifCond .lt 8, 3) := by decide +kernel
theorem dX9_ofChapter_20 : decode cX9_ofChapter 20 = .ok (.iload_n 2, 1) := by decide +kernel
theorem dX9_ofChapter_21 : decode cX9_ofChapter 21 = .ok (.iconst 3, 1) := by decide +kernel
theorem dX9_ofChapter_22 : decode cX9_ofChapter 22 = .ok (.if_icmp .le 6, 3) := by decide +kernel
theorem dX9_ofChapter_25 : decode cX9_ofChapter 25 = .ok (.bipush (-2), 2) := by decide +kernel
theorem dX9_ofChapter_27 : decode cX9_ofChapter 27 = .ok (.ireturn, 1) := by decide +kernel
theorem dX9_ofChapter_28 : decode cX9_ofChapter 28 = .ok (.aload_n 0, 1) := by decide +kernel
theorem dX9_ofChapter_29 : decode cX9_ofChapter 29 = .ok (.getfield 12, 3) := by decide +kernel
theorem dX9_ofChapter_32 : decode cX9_ofChapter 32 = .ok (.getfield 199, 3) := by decide +kernel
theorem dX9_ofChapter_35 : decode cX9_ofChapter 35 = .ok (.getfield 210, 3) := by decide +kernel
theorem dX9_ofChapter_38 : decode cX9_ofChapter 38 = .ok (.iload_n 1, 1) := by decide +kernel
theorem dX9_ofChapter_39 : decode cX9_ofChapter 39 = .ok (.iaload, 1) := by decide +kernel
theorem dX9_ofChapter_40 : decode cX9_ofChapter 40 = .ok (.istore_n 3, 1) := by decide +kernel
theorem dX9_ofChapter_41 : decode cX9_ofChapter 41 = .ok (.iload_n 2, 1) := by decide +kernel
theorem dX9_ofChapter_42 : decode cX9_ofChapter 42 = .ok (.ifCond .ne 5, 3) := by decide +kernel
theorem dX9_ofChapter_45 : decode cX9_ofChapter 45 = .ok (.iload_n 3, 1) := by decide +kernel
theorem dX9_ofChapter_46 : decode cX9_ofChapter 46 = .ok (.ireturn, 1) := by decide +kernel
theorem dX9_ofChapter_47 : decode cX9_ofChapter 47 = .ok (.iload_n 2, 1) := by decide +kernel
theorem dX9_ofChapter_48 : decode cX9_ofChapter 48 = .ok (.iconst 1, 1) := by decide +kernel
theorem dX9_ofChapter_49 : decode cX9_ofChapter 49 = .ok (.if_icmp .ne 16, 3) := by decide +kernel
theorem dX9_ofChapter_52 : decode cX9_ofChapter 52 = .ok (.aload_n 0, 1) := by decide +kernel
theorem dX9_ofChapter_53 : decode cX9_ofChapter 53 = .ok (.getfield 12, 3) := by decide +kernel
theorem dX9_ofChapter_56 : decode cX9_ofChapter 56 = .ok (.getfield 199, 3) := by decide +kernel
theorem dX9_ofChapter_59 : decode cX9_ofChapter 59 = .ok (.getfield 213, 3) := by decide +kernel
theorem dX9_ofChapter_62 : decode cX9_ofChapter 62 = .ok (.iload_n 1, 1) := by decide +kernel
theorem dX9_ofChapter_63 : decode cX9_ofChapter 63 = .ok (.iaload, 1) := by decide +kernel
theorem dX9_ofChapter_64 : decode cX9_ofChapter 64 = .ok (.ireturn, 1) := by decide +kernel
theorem dX9_ofChapter_65 : decode cX9_ofChapter 65 = .ok (.aload_n 0, 1) := by decide +kernel
theorem dX9_ofChapter_66 : decode cX9_ofChapter 66 = .ok (.getfield 12, 3) := by decide +kernel
theorem dX9_ofChapter_69 : decode cX9_ofChapter 69 = .ok (.iload_n 1, 1) := by decide +kernel
theorem dX9_ofChapter_70 : decode cX9_ofChapter 70 = .ok (.invokevirtual 216, 3) := by decide +kernel
theorem dX9_ofChapter_73 : decode cX9_ofChapter 73 = .ok (.istore 4, 2) := by decide +kernel
theorem dX9_ofChapter_75 : decode cX9_ofChapter 75 = .ok (.iload_n 2, 1) := by decide +kernel
theorem dX9_ofChapter_76 : decode cX9_ofChapter 76 = .ok (.iconst 2, 1) := by decide +kernel
theorem dX9_ofChapter_77 : decode cX9_ofChapter 77 = .ok (.if_icmp .ne 8, 3) := by decide +kernel
theorem dX9_ofChapter_80 : decode cX9_ofChapter 80 = .ok (.iload 4, 2) := by decide +kernel
theorem dX9_ofChapter_82 : decode cX9_ofChapter 82 = .ok (.goto 13, 3) := by decide +kernel
theorem dX9_ofChapter_85 : decode cX9_ofChapter 85 = .ok (.aload_n 0, 1) := by decide +kernel
theorem dX9_ofChapter_86 : decode cX9_ofChapter 86 = .ok (.invokevirtual 89, 3) := by decide +kernel
theorem dX9_ofChapter_89 : decode cX9_ofChapter 89 = .ok (.iload_n 3, 1) := by decide +kernel
theorem dX9_ofChapter_90 : decode cX9_ofChapter 90 = .ok (.iload 4, 2) := by decide +kernel
theorem dX9_ofChapter_92 : decode cX9_ofChapter 92 = .ok (.invokevirtual 219, 3) := by decide +kernel
theorem dX9_ofChapter_95 : decode cX9_ofChapter 95 = .ok (.ireturn, 1) := by decide +kernel
theorem dX9_chapterAt_0 : decode cX9_chapterAt 0 = .ok (.iload_n 1, 1) := by decide +kernel
theorem dX9_chapterAt_1 : decode cX9_chapterAt 1 = .ok (.invokestatic 173, 3) := by decide +kernel
theorem dX9_chapterAt_4 : decode cX9_chapterAt 4 = .ok (.ifCond .ne 5, 3) := by decide +kernel
theorem dX9_chapterAt_7 : decode cX9_chapterAt 7 = .ok (.iconst (-1), 1) := by decide +kernel
theorem dX9_chapterAt_8 : decode cX9_chapterAt 8 = .ok (.ireturn, 1) := by decide +kernel
theorem dX9_chapterAt_9 : decode cX9_chapterAt 9 = .ok (.aload_n 0, 1) := by decide +kernel
theorem dX9_chapterAt_10 : decode cX9_chapterAt 10 = .ok (.getfield 12, 3) := by decide +kernel
theorem dX9_chapterAt_13 : decode cX9_chapterAt 13 = .ok (.getfield 199, 3) := by decide +kernel
theorem dX9_chapterAt_16 : decode cX9_chapterAt 16 = .ok (.iload_n 1, 1) := by decide +kernel
theorem dX9_chapterAt_17 : decode cX9_chapterAt 17 = .ok (.iconst 1, 1) := by decide +kernel
theorem dX9_chapterAt_18 : decode cX9_chapterAt 18 = .ok (.iadd, 1) := by decide +kernel
theorem dX9_chapterAt_19 : decode cX9_chapterAt 19 = .ok (.invokevirtual 222, 3) := by decide +kernel
theorem dX9_chapterAt_22 : decode cX9_chapterAt 22 = .ok (.istore_n 2, 1) := by decide +kernel
theorem dX9_chapterAt_23 : decode cX9_chapterAt 23 = .ok (.iload_n 2, 1) := by decide +kernel
theorem dX9_chapterAt_24 : decode cX9_chapterAt 24 = .ok (.ifCond .ne 8, 3) := by decide +kernel
theorem dX9_chapterAt_27 : decode cX9_chapterAt 27 = .ok (.bipush (-6), 2) := by decide +kernel
theorem dX9_chapterAt_29 : decode cX9_chapterAt 29 = .ok (.goto 6, 3) := by decide +kernel
theorem dX9_chapterAt_32 : decode cX9_chapterAt 32 = .ok (.iload_n 2, 1) := by decide +kernel
theorem dX9_chapterAt_33 : decode cX9_chapterAt 33 = .ok (.iconst 1, 1) := by decide +kernel
theorem dX9_chapterAt_34 : decode cX9_chapterAt 34 = .ok (.isub, 1) := by decide +kernel
theorem dX9_chapterAt_35 : decode cX9_chapterAt 35 = .ok (.ireturn, 1) := by decide +kernel
theorem dX9_value_0 : decode cX9_value 0 = .ok (.iload_n 1, 1) := by decide +kernel
theorem dX9_value_1 : decode cX9_value 1 = .ok (.invokestatic 106, 3) := by decide +kernel
theorem dX9_value_4 : decode cX9_value 4 = .ok (.ifCond .eq 10, 3) := by decide +kernel
theorem dX9_value_7 : decode cX9_value 7 = .ok (.iload_n 2, 1) := by decide +kernel
theorem dX9_value_8 : decode cX9_value 8 = .ok (.invokestatic 173, 3) := by decide +kernel
theorem dX9_value_11 : decode cX9_value 11 = .ok (.ifCond .ne 5, 3) := by decide +kernel
theorem dX9_value_14 : decode cX9_value 14 = .ok (.iconst (-1), 1) := by decide +kernel
theorem dX9_value_15 : decode cX9_value 15 = .ok (.ireturn, 1) := by decide +kernel
theorem dX9_value_16 : decode cX9_value 16 = .ok (.iload_n 3, 1) := by decide +kernel
theorem dX9_value_17 : decode cX9_value 17 = .ok (.tableswitch 79 0 3 #[31, 41, 51, 61], 31) := by decide +kernel
theorem dX9_value_48 : decode cX9_value 48 = .ok (.aload_n 0, 1) := by decide +kernel
theorem dX9_value_49 : decode cX9_value 49 = .ok (.invokevirtual 89, 3) := by decide +kernel
theorem dX9_value_52 : decode cX9_value 52 = .ok (.iload_n 1, 1) := by decide +kernel
theorem dX9_value_53 : decode cX9_value 53 = .ok (.iload_n 2, 1) := by decide +kernel
theorem dX9_value_54 : decode cX9_value 54 = .ok (.invokevirtual 225, 3) := by decide +kernel
theorem dX9_value_57 : decode cX9_value 57 = .ok (.ireturn, 1) := by decide +kernel
theorem dX9_value_58 : decode cX9_value 58 = .ok (.aload_n 0, 1) := by decide +kernel
theorem dX9_value_59 : decode cX9_value 59 = .ok (.invokevirtual 89, 3) := by decide +kernel
theorem dX9_value_62 : decode cX9_value 62 = .ok (.iload_n 1, 1) := by decide +kernel
theorem dX9_value_63 : decode cX9_value 63 = .ok (.iload_n 2, 1) := by decide +kernel
theorem dX9_value_64 : decode cX9_value 64 = .ok (.invokevirtual 228, 3) := by decide +kernel
theorem dX9_value_67 : decode cX9_value 67 = .ok (.ireturn, 1) := by decide +kernel
theorem dX9_value_68 : decode cX9_value 68 = .ok (.aload_n 0, 1) := by decide +kernel
theorem dX9_value_69 : decode cX9_value 69 = .ok (.invokevirtual 89, 3) := by decide +kernel
theorem dX9_value_72 : decode cX9_value 72 = .ok (.iload_n 1, 1) := by decide +kernel
theorem dX9_value_73 : decode cX9_value 73 = .ok (.iload_n 2, 1) := by decide +kernel
theorem dX9_value_74 : decode cX9_value 74 = .ok (.invokevirtual 231, 3) := by decide +kernel
theorem dX9_value_77 : decode cX9_value 77 = .ok (.ireturn, 1) := by decide +kernel
theorem dX9_value_78 : decode cX9_value 78 = .ok (.aload_n 0, 1) := by decide +kernel
theorem dX9_value_79 : decode cX9_value 79 = .ok (.invokevirtual 89, 3) := by decide +kernel
theorem dX9_value_82 : decode cX9_value 82 = .ok (.iload_n 1, 1) := by decide +kernel
theorem dX9_value_83 : decode cX9_value 83 = .ok (.iload_n 2, 1) := by decide +kernel
theorem dX9_value_84 : decode cX9_value 84 = .ok (.invokevirtual 186, 3) := by decide +kernel
theorem dX9_value_87 : decode cX9_value 87 = .ok (.ifCond .eq 7, 3) := by decide +kernel
theorem dX9_value_90 : decode cX9_value 90 = .ok (.iconst 1, 1) := by decide +kernel
theorem dX9_value_91 : decode cX9_value 91 = .ok (.goto 4, 3) := by decide +kernel
theorem dX9_value_94 : decode cX9_value 94 = .ok (.iconst 0, 1) := by decide +kernel
theorem dX9_value_95 : decode cX9_value 95 = .ok (.ireturn, 1) := by decide +kernel
theorem dX9_value_96 : decode cX9_value 96 = .ok (.bipush (-2), 2) := by decide +kernel
theorem dX9_value_98 : decode cX9_value 98 = .ok (.ireturn, 1) := by decide +kernel
theorem dX9_mix_0 : decode cX9_mix 0 = .ok (.iload_n 1, 1) := by decide +kernel
theorem dX9_mix_1 : decode cX9_mix 1 = .ok (.invokestatic 173, 3) := by decide +kernel
theorem dX9_mix_4 : decode cX9_mix 4 = .ok (.ifCond .eq 14, 3) := by decide +kernel
theorem dX9_mix_7 : decode cX9_mix 7 = .ok (.aload_n 0, 1) := by decide +kernel
theorem dX9_mix_8 : decode cX9_mix 8 = .ok (.invokevirtual 89, 3) := by decide +kernel
theorem dX9_mix_11 : decode cX9_mix 11 = .ok (.iload_n 1, 1) := by decide +kernel
theorem dX9_mix_12 : decode cX9_mix 12 = .ok (.invokevirtual 234, 3) := by decide +kernel
theorem dX9_mix_15 : decode cX9_mix 15 = .ok (.goto 4, 3) := by decide +kernel
theorem dX9_mix_18 : decode cX9_mix 18 = .ok (.iconst (-1), 1) := by decide +kernel
theorem dX9_mix_19 : decode cX9_mix 19 = .ok (.ireturn, 1) := by decide +kernel
theorem dX9_peak_0 : decode cX9_peak 0 = .ok (.iload_n 1, 1) := by decide +kernel
theorem dX9_peak_1 : decode cX9_peak 1 = .ok (.tableswitch 82 0 4 #[35, 46, 58, 66, 74], 35) := by decide +kernel
theorem dX9_peak_36 : decode cX9_peak 36 = .ok (.aload_n 0, 1) := by decide +kernel
theorem dX9_peak_37 : decode cX9_peak 37 = .ok (.getfield 12, 3) := by decide +kernel
theorem dX9_peak_40 : decode cX9_peak 40 = .ok (.getfield 80, 3) := by decide +kernel
theorem dX9_peak_43 : decode cX9_peak 43 = .ok (.invokevirtual 237, 3) := by decide +kernel
theorem dX9_peak_46 : decode cX9_peak 46 = .ok (.ireturn, 1) := by decide +kernel
theorem dX9_peak_47 : decode cX9_peak 47 = .ok (.aload_n 0, 1) := by decide +kernel
theorem dX9_peak_48 : decode cX9_peak 48 = .ok (.invokevirtual 89, 3) := by decide +kernel
theorem dX9_peak_51 : decode cX9_peak 51 = .ok (.iconst 0, 1) := by decide +kernel
theorem dX9_peak_52 : decode cX9_peak 52 = .ok (.sipush 600, 3) := by decide +kernel
theorem dX9_peak_55 : decode cX9_peak 55 = .ok (.invokevirtual 219, 3) := by decide +kernel
theorem dX9_peak_58 : decode cX9_peak 58 = .ok (.ireturn, 1) := by decide +kernel
theorem dX9_peak_59 : decode cX9_peak 59 = .ok (.aload_n 0, 1) := by decide +kernel
theorem dX9_peak_60 : decode cX9_peak 60 = .ok (.invokevirtual 89, 3) := by decide +kernel
theorem dX9_peak_63 : decode cX9_peak 63 = .ok (.invokevirtual 241, 3) := by decide +kernel
theorem dX9_peak_66 : decode cX9_peak 66 = .ok (.ireturn, 1) := by decide +kernel
theorem dX9_peak_67 : decode cX9_peak 67 = .ok (.aload_n 0, 1) := by decide +kernel
theorem dX9_peak_68 : decode cX9_peak 68 = .ok (.invokevirtual 89, 3) := by decide +kernel
theorem dX9_peak_71 : decode cX9_peak 71 = .ok (.invokevirtual 244, 3) := by decide +kernel
theorem dX9_peak_74 : decode cX9_peak 74 = .ok (.ireturn, 1) := by decide +kernel
theorem dX9_peak_75 : decode cX9_peak 75 = .ok (.aload_n 0, 1) := by decide +kernel
theorem dX9_peak_76 : decode cX9_peak 76 = .ok (.invokevirtual 89, 3) := by decide +kernel
theorem dX9_peak_79 : decode cX9_peak 79 = .ok (.invokevirtual 247, 3) := by decide +kernel
theorem dX9_peak_82 : decode cX9_peak 82 = .ok (.ireturn, 1) := by decide +kernel
theorem dX9_peak_83 : decode cX9_peak 83 = .ok (.bipush (-2), 2) := by decide +kernel
theorem dX9_peak_85 : decode cX9_peak 85 = .ok (.ireturn, 1) := by decide +kernel
theorem dX9_level_0 : decode cX9_level 0 = .ok (.aload_n 0, 1) := by decide +kernel
theorem dX9_level_1 : decode cX9_level 1 = .ok (.invokevirtual 250, 3) := by decide +kernel
theorem dX9_level_4 : decode cX9_level 4 = .ok (.iload_n 1, 1) := by decide +kernel
theorem dX9_level_5 : decode cX9_level 5 = .ok (.ifCond .lt 14, 3) := by decide +kernel
theorem dX9_level_8 : decode cX9_level 8 = .ok (.iload_n 1, 1) := by decide +kernel
theorem dX9_level_9 : decode cX9_level 9 = .ok (.aload_n 0, 1) := by decide +kernel
theorem dX9_level_10 : decode cX9_level 10 = .ok (.getfield 43, 3) := by decide +kernel
theorem dX9_level_13 : decode cX9_level 13 = .ok (.getfield 253, 3) := by decide +kernel
theorem dX9_level_16 : decode cX9_level 16 = .ok (.if_icmp .lt 7, 3) := by decide +kernel
theorem dX9_level_19 : decode cX9_level 19 = .ok (.iconst (-1), 1) := by decide +kernel
theorem dX9_level_20 : decode cX9_level 20 = .ok (.goto 12, 3) := by decide +kernel
theorem dX9_level_23 : decode cX9_level 23 = .ok (.aload_n 0, 1) := by decide +kernel
theorem dX9_level_24 : decode cX9_level 24 = .ok (.getfield 43, 3) := by decide +kernel
theorem dX9_level_27 : decode cX9_level 27 = .ok (.getfield 257, 3) := by decide +kernel
theorem dX9_level_30 : decode cX9_level 30 = .ok (.iload_n 1, 1) := by decide +kernel
theorem dX9_level_31 : decode cX9_level 31 = .ok (.iaload, 1) := by decide +kernel
theorem dX9_level_32 : decode cX9_level 32 = .ok (.ireturn, 1) := by decide +kernel
theorem dX9_loudness_0 : decode cX9_loudness 0 = .ok (.iload_n 1, 1) := by decide +kernel
theorem dX9_loudness_1 : decode cX9_loudness 1 = .ok (.ifCond .lt 8, 3) := by decide +kernel
theorem dX9_loudness_4 : decode cX9_loudness 4 = .ok (.iload_n 1, 1) := by decide +kernel
theorem dX9_loudness_5 : decode cX9_loudness 5 = .ok (.iconst 4, 1) := by decide +kernel
theorem dX9_loudness_6 : decode cX9_loudness 6 = .ok (.if_icmp .le 6, 3) := by decide +kernel
theorem dX9_loudness_9 : decode cX9_loudness 9 = .ok (.bipush (-2), 2) := by decide +kernel
theorem dX9_loudness_11 : decode cX9_loudness 11 = .ok (.ireturn, 1) := by decide +kernel
theorem dX9_loudness_12 : decode cX9_loudness 12 = .ok (.aload_n 0, 1) := by decide +kernel
theorem dX9_loudness_13 : decode cX9_loudness 13 = .ok (.invokevirtual 250, 3) := by decide +kernel
theorem dX9_loudness_16 : decode cX9_loudness 16 = .ok (.iload_n 1, 1) := by decide +kernel
theorem dX9_loudness_17 : decode cX9_loudness 17 = .ok (.tableswitch 63 0 3 #[31, 39, 47, 55], 31) := by decide +kernel
theorem dX9_loudness_48 : decode cX9_loudness 48 = .ok (.aload_n 0, 1) := by decide +kernel
theorem dX9_loudness_49 : decode cX9_loudness 49 = .ok (.getfield 43, 3) := by decide +kernel
theorem dX9_loudness_52 : decode cX9_loudness 52 = .ok (.getfield 253, 3) := by decide +kernel
theorem dX9_loudness_55 : decode cX9_loudness 55 = .ok (.ireturn, 1) := by decide +kernel
theorem dX9_loudness_56 : decode cX9_loudness 56 = .ok (.aload_n 0, 1) := by decide +kernel
theorem dX9_loudness_57 : decode cX9_loudness 57 = .ok (.getfield 43, 3) := by decide +kernel
theorem dX9_loudness_60 : decode cX9_loudness 60 = .ok (.getfield 260, 3) := by decide +kernel
theorem dX9_loudness_63 : decode cX9_loudness 63 = .ok (.ireturn, 1) := by decide +kernel
theorem dX9_loudness_64 : decode cX9_loudness 64 = .ok (.aload_n 0, 1) := by decide +kernel
theorem dX9_loudness_65 : decode cX9_loudness 65 = .ok (.getfield 43, 3) := by decide +kernel
theorem dX9_loudness_68 : decode cX9_loudness 68 = .ok (.getfield 263, 3) := by decide +kernel
theorem dX9_loudness_71 : decode cX9_loudness 71 = .ok (.ireturn, 1) := by decide +kernel
theorem dX9_loudness_72 : decode cX9_loudness 72 = .ok (.aload_n 0, 1) := by decide +kernel
theorem dX9_loudness_73 : decode cX9_loudness 73 = .ok (.getfield 43, 3) := by decide +kernel
theorem dX9_loudness_76 : decode cX9_loudness 76 = .ok (.getfield 266, 3) := by decide +kernel
theorem dX9_loudness_79 : decode cX9_loudness 79 = .ok (.ireturn, 1) := by decide +kernel
theorem dX9_loudness_80 : decode cX9_loudness 80 = .ok (.aload_n 0, 1) := by decide +kernel
theorem dX9_loudness_81 : decode cX9_loudness 81 = .ok (.getfield 43, 3) := by decide +kernel
theorem dX9_loudness_84 : decode cX9_loudness 84 = .ok (.getfield 269, 3) := by decide +kernel
theorem dX9_loudness_87 : decode cX9_loudness 87 = .ok (.ireturn, 1) := by decide +kernel
theorem dX9_masterFor_0 : decode cX9_masterFor 0 = .ok (.aload_n 0, 1) := by decide +kernel
theorem dX9_masterFor_1 : decode cX9_masterFor 1 = .ok (.iload_n 1, 1) := by decide +kernel
theorem dX9_masterFor_2 : decode cX9_masterFor 2 = .ok (.invokevirtual 272, 3) := by decide +kernel
theorem dX9_masterFor_5 : decode cX9_masterFor 5 = .ok (.ireturn, 1) := by decide +kernel
theorem dX9_normalize_0 : decode cX9_normalize 0 = .ok (.aload_n 0, 1) := by decide +kernel
theorem dX9_normalize_1 : decode cX9_normalize 1 = .ok (.iload_n 1, 1) := by decide +kernel
theorem dX9_normalize_2 : decode cX9_normalize 2 = .ok (.invokevirtual 272, 3) := by decide +kernel
theorem dX9_normalize_5 : decode cX9_normalize 5 = .ok (.istore_n 2, 1) := by decide +kernel
theorem dX9_normalize_6 : decode cX9_normalize 6 = .ok (.iload_n 2, 1) := by decide +kernel
theorem dX9_normalize_7 : decode cX9_normalize 7 = .ok (.ifCond .le 13, 3) := by decide +kernel
theorem dX9_normalize_10 : decode cX9_normalize 10 = .ok (.aload_n 0, 1) := by decide +kernel
theorem dX9_normalize_11 : decode cX9_normalize 11 = .ok (.getfield 12, 3) := by decide +kernel
theorem dX9_normalize_14 : decode cX9_normalize 14 = .ok (.getfield 275, 3) := by decide +kernel
theorem dX9_normalize_17 : decode cX9_normalize 17 = .ok (.iconst 0, 1) := by decide +kernel
theorem dX9_normalize_18 : decode cX9_normalize 18 = .ok (.iload_n 2, 1) := by decide +kernel
theorem dX9_normalize_19 : decode cX9_normalize 19 = .ok (.iastore, 1) := by decide +kernel
theorem dX9_normalize_20 : decode cX9_normalize 20 = .ok (.aload_n 0, 1) := by decide +kernel
theorem dX9_normalize_21 : decode cX9_normalize 21 = .ok (.iload_n 2, 1) := by decide +kernel
theorem dX9_normalize_22 : decode cX9_normalize 22 = .ok (.invokevirtual 72, 3) := by decide +kernel
theorem dX9_normalize_25 : decode cX9_normalize 25 = .ok (.ireturn, 1) := by decide +kernel
theorem dX9_covered_0 : decode cX9_covered 0 = .ok (.iload_n 1, 1) := by decide +kernel
theorem dX9_covered_1 : decode cX9_covered 1 = .ok (.invokestatic 106, 3) := by decide +kernel
theorem dX9_covered_4 : decode cX9_covered 4 = .ok (.ifCond .ne 5, 3) := by decide +kernel
theorem dX9_covered_7 : decode cX9_covered 7 = .ok (.iconst (-1), 1) := by decide +kernel
theorem dX9_covered_8 : decode cX9_covered 8 = .ok (.ireturn, 1) := by decide +kernel
theorem dX9_covered_9 : decode cX9_covered 9 = .ok (.iconst 0, 1) := by decide +kernel
theorem dX9_covered_10 : decode cX9_covered 10 = .ok (.istore_n 2, 1) := by decide +kernel
theorem dX9_covered_11 : decode cX9_covered 11 = .ok (.iconst 0, 1) := by decide +kernel
theorem dX9_covered_12 : decode cX9_covered 12 = .ok (.istore_n 3, 1) := by decide +kernel
theorem dX9_covered_13 : decode cX9_covered 13 = .ok (.iload_n 3, 1) := by decide +kernel
theorem dX9_covered_14 : decode cX9_covered 14 = .ok (.sipush 600, 3) := by decide +kernel
theorem dX9_covered_17 : decode cX9_covered 17 = .ok (.if_icmp .ge 27, 3) := by decide +kernel
theorem dX9_covered_20 : decode cX9_covered 20 = .ok (.aload_n 0, 1) := by decide +kernel
theorem dX9_covered_21 : decode cX9_covered 21 = .ok (.getfield 12, 3) := by decide +kernel
theorem dX9_covered_24 : decode cX9_covered 24 = .ok (.getfield 80, 3) := by decide +kernel
theorem dX9_covered_27 : decode cX9_covered 27 = .ok (.iload_n 1, 1) := by decide +kernel
theorem dX9_covered_28 : decode cX9_covered 28 = .ok (.iload_n 3, 1) := by decide +kernel
theorem dX9_covered_29 : decode cX9_covered 29 = .ok (.invokevirtual 183, 3) := by decide +kernel
theorem dX9_covered_32 : decode cX9_covered 32 = .ok (.ifCond .lt 6, 3) := by decide +kernel
theorem dX9_covered_35 : decode cX9_covered 35 = .ok (.iinc 2 1, 3) := by decide +kernel
theorem dX9_covered_38 : decode cX9_covered 38 = .ok (.iinc 3 1, 3) := by decide +kernel
theorem dX9_covered_41 : decode cX9_covered 41 = .ok (.goto (-28), 3) := by decide +kernel
theorem dX9_covered_44 : decode cX9_covered 44 = .ok (.iload_n 2, 1) := by decide +kernel
theorem dX9_covered_45 : decode cX9_covered 45 = .ok (.ireturn, 1) := by decide +kernel
theorem dX9_loudnessAgain_0 : decode cX9_loudnessAgain 0 = .ok (.aload_n 0, 1) := by decide +kernel
theorem dX9_loudnessAgain_1 : decode cX9_loudnessAgain 1 = .ok (.getfield 34, 3) := by decide +kernel
theorem dX9_loudnessAgain_4 : decode cX9_loudnessAgain 4 = .ok (.invokevirtual 278, 3) := by decide +kernel
theorem dX9_loudnessAgain_7 : decode cX9_loudnessAgain 7 = .ok (.aload_n 0, 1) := by decide +kernel
theorem dX9_loudnessAgain_8 : decode cX9_loudnessAgain 8 = .ok (.getfield 43, 3) := by decide +kernel
theorem dX9_loudnessAgain_11 : decode cX9_loudnessAgain 11 = .ok (.invokevirtual 281, 3) := by decide +kernel
theorem dX9_loudnessAgain_14 : decode cX9_loudnessAgain 14 = .ok (.ireturn, 1) := by decide +kernel
theorem dX9_silence_0 : decode cX9_silence 0 = .ok (.iload_n 1, 1) := by decide +kernel
theorem dX9_silence_1 : decode cX9_silence 1 = .ok (.iload_n 2, 1) := by decide +kernel
theorem dX9_silence_2 : decode cX9_silence 2 = .ok (.invokestatic 284, 3) := by decide +kernel
theorem dX9_silence_5 : decode cX9_silence 5 = .ok (.ifCond .ne 6, 3) := by decide +kernel
theorem dX9_silence_8 : decode cX9_silence 8 = .ok (.bipush (-2), 2) := by decide +kernel
theorem dX9_silence_10 : decode cX9_silence 10 = .ok (.ireturn, 1) := by decide +kernel
theorem dX9_silence_11 : decode cX9_silence 11 = .ok (.aload_n 0, 1) := by decide +kernel
theorem dX9_silence_12 : decode cX9_silence 12 = .ok (.getfield 34, 3) := by decide +kernel
theorem dX9_silence_15 : decode cX9_silence 15 = .ok (.invokevirtual 278, 3) := by decide +kernel
theorem dX9_silence_18 : decode cX9_silence 18 = .ok (.aload_n 0, 1) := by decide +kernel
theorem dX9_silence_19 : decode cX9_silence 19 = .ok (.getfield 50, 3) := by decide +kernel
theorem dX9_silence_22 : decode cX9_silence 22 = .ok (.iload_n 1, 1) := by decide +kernel
theorem dX9_silence_23 : decode cX9_silence 23 = .ok (.iload_n 2, 1) := by decide +kernel
theorem dX9_silence_24 : decode cX9_silence 24 = .ok (.invokevirtual 287, 3) := by decide +kernel
theorem dX9_silence_27 : decode cX9_silence 27 = .ok (.iload_n 3, 1) := by decide +kernel
theorem dX9_silence_28 : decode cX9_silence 28 = .ok (.iconst (-1), 1) := by decide +kernel
theorem dX9_silence_29 : decode cX9_silence 29 = .ok (.if_icmp .ne 11, 3) := by decide +kernel
theorem dX9_silence_32 : decode cX9_silence 32 = .ok (.aload_n 0, 1) := by decide +kernel
theorem dX9_silence_33 : decode cX9_silence 33 = .ok (.getfield 50, 3) := by decide +kernel
theorem dX9_silence_36 : decode cX9_silence 36 = .ok (.getfield 291, 3) := by decide +kernel
theorem dX9_silence_39 : decode cX9_silence 39 = .ok (.ireturn, 1) := by decide +kernel
theorem dX9_silence_40 : decode cX9_silence 40 = .ok (.iload_n 3, 1) := by decide +kernel
theorem dX9_silence_41 : decode cX9_silence 41 = .ok (.ifCond .lt 14, 3) := by decide +kernel
theorem dX9_silence_44 : decode cX9_silence 44 = .ok (.iload_n 3, 1) := by decide +kernel
theorem dX9_silence_45 : decode cX9_silence 45 = .ok (.aload_n 0, 1) := by decide +kernel
theorem dX9_silence_46 : decode cX9_silence 46 = .ok (.getfield 50, 3) := by decide +kernel
theorem dX9_silence_49 : decode cX9_silence 49 = .ok (.getfield 291, 3) := by decide +kernel
theorem dX9_silence_52 : decode cX9_silence 52 = .ok (.if_icmp .lt 5, 3) := by decide +kernel
theorem dX9_silence_55 : decode cX9_silence 55 = .ok (.iconst (-1), 1) := by decide +kernel
theorem dX9_silence_56 : decode cX9_silence 56 = .ok (.ireturn, 1) := by decide +kernel
theorem dX9_silence_57 : decode cX9_silence 57 = .ok (.iload 4, 2) := by decide +kernel
theorem dX9_silence_59 : decode cX9_silence 59 = .ok (.ifCond .lt 9, 3) := by decide +kernel
theorem dX9_silence_62 : decode cX9_silence 62 = .ok (.iload 4, 2) := by decide +kernel
theorem dX9_silence_64 : decode cX9_silence 64 = .ok (.iconst 1, 1) := by decide +kernel
theorem dX9_silence_65 : decode cX9_silence 65 = .ok (.if_icmp .le 6, 3) := by decide +kernel
theorem dX9_silence_68 : decode cX9_silence 68 = .ok (.bipush (-2), 2) := by decide +kernel
theorem dX9_silence_70 : decode cX9_silence 70 = .ok (.ireturn, 1) := by decide +kernel
theorem dX9_silence_71 : decode cX9_silence 71 = .ok (.iload 4, 2) := by decide +kernel
theorem dX9_silence_73 : decode cX9_silence 73 = .ok (.ifCond .ne 15, 3) := by decide +kernel
theorem dX9_silence_76 : decode cX9_silence 76 = .ok (.aload_n 0, 1) := by decide +kernel
theorem dX9_silence_77 : decode cX9_silence 77 = .ok (.getfield 50, 3) := by decide +kernel
theorem dX9_silence_80 : decode cX9_silence 80 = .ok (.getfield 294, 3) := by decide +kernel
theorem dX9_silence_83 : decode cX9_silence 83 = .ok (.iload_n 3, 1) := by decide +kernel
theorem dX9_silence_84 : decode cX9_silence 84 = .ok (.iaload, 1) := by decide +kernel
theorem dX9_silence_85 : decode cX9_silence 85 = .ok (.goto 12, 3) := by decide +kernel
theorem dX9_silence_88 : decode cX9_silence 88 = .ok (.aload_n 0, 1) := by decide +kernel
theorem dX9_silence_89 : decode cX9_silence 89 = .ok (.getfield 50, 3) := by decide +kernel
theorem dX9_silence_92 : decode cX9_silence 92 = .ok (.getfield 297, 3) := by decide +kernel
theorem dX9_silence_95 : decode cX9_silence 95 = .ok (.iload_n 3, 1) := by decide +kernel
theorem dX9_silence_96 : decode cX9_silence 96 = .ok (.iaload, 1) := by decide +kernel
theorem dX9_silence_97 : decode cX9_silence 97 = .ok (.ireturn, 1) := by decide +kernel
theorem dX9_tighten_0 : decode cX9_tighten 0 = .ok (.iload_n 1, 1) := by decide +kernel
theorem dX9_tighten_1 : decode cX9_tighten 1 = .ok (.iload_n 2, 1) := by decide +kernel
theorem dX9_tighten_2 : decode cX9_tighten 2 = .ok (.invokestatic 284, 3) := by decide +kernel
theorem dX9_tighten_5 : decode cX9_tighten 5 = .ok (.ifCond .ne 6, 3) := by decide +kernel
theorem dX9_tighten_8 : decode cX9_tighten 8 = .ok (.bipush (-2), 2) := by decide +kernel
theorem dX9_tighten_10 : decode cX9_tighten 10 = .ok (.ireturn, 1) := by decide +kernel
theorem dX9_tighten_11 : decode cX9_tighten 11 = .ok (.aload_n 0, 1) := by decide +kernel
theorem dX9_tighten_12 : decode cX9_tighten 12 = .ok (.getfield 34, 3) := by decide +kernel
theorem dX9_tighten_15 : decode cX9_tighten 15 = .ok (.invokevirtual 278, 3) := by decide +kernel
theorem dX9_tighten_18 : decode cX9_tighten 18 = .ok (.aload_n 0, 1) := by decide +kernel
theorem dX9_tighten_19 : decode cX9_tighten 19 = .ok (.getfield 50, 3) := by decide +kernel
theorem dX9_tighten_22 : decode cX9_tighten 22 = .ok (.iload_n 1, 1) := by decide +kernel
theorem dX9_tighten_23 : decode cX9_tighten 23 = .ok (.iload_n 2, 1) := by decide +kernel
theorem dX9_tighten_24 : decode cX9_tighten 24 = .ok (.invokevirtual 287, 3) := by decide +kernel
theorem dX9_tighten_27 : decode cX9_tighten 27 = .ok (.aload_n 0, 1) := by decide +kernel
theorem dX9_tighten_28 : decode cX9_tighten 28 = .ok (.getfield 12, 3) := by decide +kernel
theorem dX9_tighten_31 : decode cX9_tighten 31 = .ok (.aload_n 0, 1) := by decide +kernel
theorem dX9_tighten_32 : decode cX9_tighten 32 = .ok (.getfield 16, 3) := by decide +kernel
theorem dX9_tighten_35 : decode cX9_tighten 35 = .ok (.invokestatic 300, 3) := by decide +kernel
theorem dX9_tighten_38 : decode cX9_tighten 38 = .ok (.iconst 0, 1) := by decide +kernel
theorem dX9_tighten_39 : decode cX9_tighten 39 = .ok (.istore_n 3, 1) := by decide +kernel
theorem dX9_tighten_40 : decode cX9_tighten 40 = .ok (.aload_n 0, 1) := by decide +kernel
theorem dX9_tighten_41 : decode cX9_tighten 41 = .ok (.getfield 50, 3) := by decide +kernel
theorem dX9_tighten_44 : decode cX9_tighten 44 = .ok (.getfield 291, 3) := by decide +kernel
theorem dX9_tighten_47 : decode cX9_tighten 47 = .ok (.iconst 1, 1) := by decide +kernel
theorem dX9_tighten_48 : decode cX9_tighten 48 = .ok (.isub, 1) := by decide +kernel
theorem dX9_tighten_49 : decode cX9_tighten 49 = .ok (.istore 4, 2) := by decide +kernel
theorem dX9_tighten_51 : decode cX9_tighten 51 = .ok (.iload 4, 2) := by decide +kernel
theorem dX9_tighten_53 : decode cX9_tighten 53 = .ok (.ifCond .lt 89, 3) := by decide +kernel
theorem dX9_tighten_56 : decode cX9_tighten 56 = .ok (.aload_n 0, 1) := by decide +kernel
theorem dX9_tighten_57 : decode cX9_tighten 57 = .ok (.getfield 50, 3) := by decide +kernel
theorem dX9_tighten_60 : decode cX9_tighten 60 = .ok (.getfield 294, 3) := by decide +kernel
theorem dX9_tighten_63 : decode cX9_tighten 63 = .ok (.iload 4, 2) := by decide +kernel
theorem dX9_tighten_65 : decode cX9_tighten 65 = .ok (.iaload, 1) := by decide +kernel
theorem dX9_tighten_66 : decode cX9_tighten 66 = .ok (.aload_n 0, 1) := by decide +kernel
theorem dX9_tighten_67 : decode cX9_tighten 67 = .ok (.getfield 50, 3) := by decide +kernel
theorem dX9_tighten_70 : decode cX9_tighten 70 = .ok (.getfield 297, 3) := by decide +kernel
theorem dX9_tighten_73 : decode cX9_tighten 73 = .ok (.iload 4, 2) := by decide +kernel
theorem dX9_tighten_75 : decode cX9_tighten 75 = .ok (.iaload, 1) := by decide +kernel
theorem dX9_tighten_76 : decode cX9_tighten 76 = .ok (.iadd, 1) := by decide +kernel
theorem dX9_tighten_77 : decode cX9_tighten 77 = .ok (.istore 5, 2) := by decide +kernel
theorem dX9_tighten_79 : decode cX9_tighten 79 = .ok (.aload_n 0, 1) := by decide +kernel
theorem dX9_tighten_80 : decode cX9_tighten 80 = .ok (.getfield 50, 3) := by decide +kernel
theorem dX9_tighten_83 : decode cX9_tighten 83 = .ok (.getfield 294, 3) := by decide +kernel
theorem dX9_tighten_86 : decode cX9_tighten 86 = .ok (.iload 4, 2) := by decide +kernel
theorem dX9_tighten_88 : decode cX9_tighten 88 = .ok (.iaload, 1) := by decide +kernel
theorem dX9_tighten_89 : decode cX9_tighten 89 = .ok (.iload_n 2, 1) := by decide +kernel
theorem dX9_tighten_90 : decode cX9_tighten 90 = .ok (.iadd, 1) := by decide +kernel
theorem dX9_tighten_91 : decode cX9_tighten 91 = .ok (.istore 6, 2) := by decide +kernel
theorem dX9_tighten_93 : decode cX9_tighten 93 = .ok (.iload 6, 2) := by decide +kernel
theorem dX9_tighten_95 : decode cX9_tighten 95 = .ok (.iload 5, 2) := by decide +kernel
theorem dX9_tighten_97 : decode cX9_tighten 97 = .ok (.if_icmp .ge 31, 3) := by decide +kernel
theorem dX9_tighten_100 : decode cX9_tighten 100 = .ok (.aload_n 0, 1) := by decide +kernel
theorem dX9_tighten_101 : decode cX9_tighten 101 = .ok (.getfield 12, 3) := by decide +kernel
theorem dX9_tighten_104 : decode cX9_tighten 104 = .ok (.iload 6, 2) := by decide +kernel
theorem dX9_tighten_106 : decode cX9_tighten 106 = .ok (.iload 5, 2) := by decide +kernel
theorem dX9_tighten_108 : decode cX9_tighten 108 = .ok (.invokevirtual 193, 3) := by decide +kernel
theorem dX9_tighten_111 : decode cX9_tighten 111 = .ok (.ifCond .ge 17, 3) := by decide +kernel
theorem dX9_tighten_114 : decode cX9_tighten 114 = .ok (.aload_n 0, 1) := by decide +kernel
theorem dX9_tighten_115 : decode cX9_tighten 115 = .ok (.getfield 16, 3) := by decide +kernel
theorem dX9_tighten_118 : decode cX9_tighten 118 = .ok (.aload_n 0, 1) := by decide +kernel
theorem dX9_tighten_119 : decode cX9_tighten 119 = .ok (.getfield 12, 3) := by decide +kernel
theorem dX9_tighten_122 : decode cX9_tighten 122 = .ok (.invokestatic 300, 3) := by decide +kernel
theorem dX9_tighten_125 : decode cX9_tighten 125 = .ok (.bipush (-3), 2) := by decide +kernel
theorem dX9_tighten_127 : decode cX9_tighten 127 = .ok (.ireturn, 1) := by decide +kernel
theorem dX9_tighten_128 : decode cX9_tighten 128 = .ok (.iload_n 3, 1) := by decide +kernel
theorem dX9_tighten_129 : decode cX9_tighten 129 = .ok (.iload 5, 2) := by decide +kernel
theorem dX9_tighten_131 : decode cX9_tighten 131 = .ok (.iload 6, 2) := by decide +kernel
theorem dX9_tighten_133 : decode cX9_tighten 133 = .ok (.isub, 1) := by decide +kernel
theorem dX9_tighten_134 : decode cX9_tighten 134 = .ok (.iadd, 1) := by decide +kernel
theorem dX9_tighten_135 : decode cX9_tighten 135 = .ok (.istore_n 3, 1) := by decide +kernel
theorem dX9_tighten_136 : decode cX9_tighten 136 = .ok (.iinc 4 (-1), 3) := by decide +kernel
theorem dX9_tighten_139 : decode cX9_tighten 139 = .ok (.goto (-88), 3) := by decide +kernel
theorem dX9_tighten_142 : decode cX9_tighten 142 = .ok (.aload_n 0, 1) := by decide +kernel
theorem dX9_tighten_143 : decode cX9_tighten 143 = .ok (.iload_n 3, 1) := by decide +kernel
theorem dX9_tighten_144 : decode cX9_tighten 144 = .ok (.invokevirtual 72, 3) := by decide +kernel
theorem dX9_tighten_147 : decode cX9_tighten 147 = .ok (.ireturn, 1) := by decide +kernel
theorem dX9_ifCut_0 : decode cX9_ifCut 0 = .ok (.iload_n 3, 1) := by decide +kernel
theorem dX9_ifCut_1 : decode cX9_ifCut 1 = .ok (.ifCond .lt 8, 3) := by decide +kernel
theorem dX9_ifCut_4 : decode cX9_ifCut 4 = .ok (.iload_n 3, 1) := by decide +kernel
theorem dX9_ifCut_5 : decode cX9_ifCut 5 = .ok (.iconst 3, 1) := by decide +kernel
theorem dX9_ifCut_6 : decode cX9_ifCut 6 = .ok (.if_icmp .le 6, 3) := by decide +kernel
theorem dX9_ifCut_9 : decode cX9_ifCut 9 = .ok (.bipush (-2), 2) := by decide +kernel
theorem dX9_ifCut_11 : decode cX9_ifCut 11 = .ok (.ireturn, 1) := by decide +kernel
theorem dX9_ifCut_12 : decode cX9_ifCut 12 = .ok (.aload_n 0, 1) := by decide +kernel
theorem dX9_ifCut_13 : decode cX9_ifCut 13 = .ok (.getfield 12, 3) := by decide +kernel
theorem dX9_ifCut_16 : decode cX9_ifCut 16 = .ok (.aload_n 0, 1) := by decide +kernel
theorem dX9_ifCut_17 : decode cX9_ifCut 17 = .ok (.getfield 16, 3) := by decide +kernel
theorem dX9_ifCut_20 : decode cX9_ifCut 20 = .ok (.invokestatic 300, 3) := by decide +kernel
theorem dX9_ifCut_23 : decode cX9_ifCut 23 = .ok (.aload_n 0, 1) := by decide +kernel
theorem dX9_ifCut_24 : decode cX9_ifCut 24 = .ok (.getfield 12, 3) := by decide +kernel
theorem dX9_ifCut_27 : decode cX9_ifCut 27 = .ok (.iload_n 1, 1) := by decide +kernel
theorem dX9_ifCut_28 : decode cX9_ifCut 28 = .ok (.iload_n 2, 1) := by decide +kernel
theorem dX9_ifCut_29 : decode cX9_ifCut 29 = .ok (.invokevirtual 193, 3) := by decide +kernel
theorem dX9_ifCut_32 : decode cX9_ifCut 32 = .ok (.istore 4, 2) := by decide +kernel
theorem dX9_ifCut_34 : decode cX9_ifCut 34 = .ok (.iload 4, 2) := by decide +kernel
theorem dX9_ifCut_36 : decode cX9_ifCut 36 = .ok (.ifCond .lt 37, 3) := by decide +kernel
theorem dX9_ifCut_39 : decode cX9_ifCut 39 = .ok (.aload_n 0, 1) := by decide +kernel
theorem dX9_ifCut_40 : decode cX9_ifCut 40 = .ok (.getfield 34, 3) := by decide +kernel
theorem dX9_ifCut_43 : decode cX9_ifCut 43 = .ok (.iconst 1, 1) := by decide +kernel
theorem dX9_ifCut_44 : decode cX9_ifCut 44 = .ok (.putfield 304, 3) := by decide +kernel
theorem dX9_ifCut_47 : decode cX9_ifCut 47 = .ok (.aload_n 0, 1) := by decide +kernel
theorem dX9_ifCut_48 : decode cX9_ifCut 48 = .ok (.iload_n 3, 1) := by decide +kernel
theorem dX9_ifCut_49 : decode cX9_ifCut 49 = .ok (.invokevirtual 308, 3) := by decide +kernel
theorem dX9_ifCut_52 : decode cX9_ifCut 52 = .ok (.istore 4, 2) := by decide +kernel
theorem dX9_ifCut_54 : decode cX9_ifCut 54 = .ok (.aload_n 0, 1) := by decide +kernel
theorem dX9_ifCut_55 : decode cX9_ifCut 55 = .ok (.getfield 16, 3) := by decide +kernel
theorem dX9_ifCut_58 : decode cX9_ifCut 58 = .ok (.aload_n 0, 1) := by decide +kernel
theorem dX9_ifCut_59 : decode cX9_ifCut 59 = .ok (.getfield 12, 3) := by decide +kernel
theorem dX9_ifCut_62 : decode cX9_ifCut 62 = .ok (.invokestatic 300, 3) := by decide +kernel
theorem dX9_ifCut_65 : decode cX9_ifCut 65 = .ok (.aload_n 0, 1) := by decide +kernel
theorem dX9_ifCut_66 : decode cX9_ifCut 66 = .ok (.getfield 34, 3) := by decide +kernel
theorem dX9_ifCut_69 : decode cX9_ifCut 69 = .ok (.iconst 1, 1) := by decide +kernel
theorem dX9_ifCut_70 : decode cX9_ifCut 70 = .ok (.putfield 304, 3) := by decide +kernel
theorem dX9_ifCut_73 : decode cX9_ifCut 73 = .ok (.iload 4, 2) := by decide +kernel
theorem dX9_ifCut_75 : decode cX9_ifCut 75 = .ok (.ireturn, 1) := by decide +kernel
theorem dX9_event_0 : decode cX9_event 0 = .ok (.iload_n 1, 1) := by decide +kernel
theorem dX9_event_1 : decode cX9_event 1 = .ok (.ifCond .lt 14, 3) := by decide +kernel
theorem dX9_event_4 : decode cX9_event 4 = .ok (.iload_n 1, 1) := by decide +kernel
theorem dX9_event_5 : decode cX9_event 5 = .ok (.aload_n 0, 1) := by decide +kernel
theorem dX9_event_6 : decode cX9_event 6 = .ok (.getfield 12, 3) := by decide +kernel
theorem dX9_event_9 : decode cX9_event 9 = .ok (.invokevirtual 311, 3) := by decide +kernel
theorem dX9_event_12 : decode cX9_event 12 = .ok (.if_icmp .lt 5, 3) := by decide +kernel
theorem dX9_event_15 : decode cX9_event 15 = .ok (.iconst (-1), 1) := by decide +kernel
theorem dX9_event_16 : decode cX9_event 16 = .ok (.ireturn, 1) := by decide +kernel
theorem dX9_event_17 : decode cX9_event 17 = .ok (.iload_n 2, 1) := by decide +kernel
theorem dX9_event_18 : decode cX9_event 18 = .ok (.ifCond .lt 8, 3) := by decide +kernel
theorem dX9_event_21 : decode cX9_event 21 = .ok (.iload_n 2, 1) := by decide +kernel
theorem dX9_event_22 : decode cX9_event 22 = .ok (.iconst 2, 1) := by decide +kernel
theorem dX9_event_23 : decode cX9_event 23 = .ok (.if_icmp .le 6, 3) := by decide +kernel
theorem dX9_event_26 : decode cX9_event 26 = .ok (.bipush (-2), 2) := by decide +kernel
theorem dX9_event_28 : decode cX9_event 28 = .ok (.ireturn, 1) := by decide +kernel
theorem dX9_event_29 : decode cX9_event 29 = .ok (.iconst (-1), 1) := by decide +kernel
theorem dX9_event_30 : decode cX9_event 30 = .ok (.istore_n 3, 1) := by decide +kernel
theorem dX9_event_31 : decode cX9_event 31 = .ok (.iconst 0, 1) := by decide +kernel
theorem dX9_event_32 : decode cX9_event 32 = .ok (.istore 4, 2) := by decide +kernel
theorem dX9_event_34 : decode cX9_event 34 = .ok (.iload 4, 2) := by decide +kernel
theorem dX9_event_36 : decode cX9_event 36 = .ok (.iload_n 1, 1) := by decide +kernel
theorem dX9_event_37 : decode cX9_event 37 = .ok (.if_icmp .gt 18, 3) := by decide +kernel
theorem dX9_event_40 : decode cX9_event 40 = .ok (.aload_n 0, 1) := by decide +kernel
theorem dX9_event_41 : decode cX9_event 41 = .ok (.getfield 12, 3) := by decide +kernel
theorem dX9_event_44 : decode cX9_event 44 = .ok (.iload_n 3, 1) := by decide +kernel
theorem dX9_event_45 : decode cX9_event 45 = .ok (.invokevirtual 314, 3) := by decide +kernel
theorem dX9_event_48 : decode cX9_event 48 = .ok (.istore_n 3, 1) := by decide +kernel
theorem dX9_event_49 : decode cX9_event 49 = .ok (.iinc 4 1, 3) := by decide +kernel
theorem dX9_event_52 : decode cX9_event 52 = .ok (.goto (-18), 3) := by decide +kernel
theorem dX9_event_55 : decode cX9_event 55 = .ok (.iload_n 3, 1) := by decide +kernel
theorem dX9_event_56 : decode cX9_event 56 = .ok (.bipush 12, 2) := by decide +kernel
theorem dX9_event_58 : decode cX9_event 58 = .ok (.idiv, 1) := by decide +kernel
theorem dX9_event_59 : decode cX9_event 59 = .ok (.istore 4, 2) := by decide +kernel
theorem dX9_event_61 : decode cX9_event 61 = .ok (.iload_n 3, 1) := by decide +kernel
theorem dX9_event_62 : decode cX9_event 62 = .ok (.iconst 4, 1) := by decide +kernel
theorem dX9_event_63 : decode cX9_event 63 = .ok (.idiv, 1) := by decide +kernel
theorem dX9_event_64 : decode cX9_event 64 = .ok (.iconst 3, 1) := by decide +kernel
theorem dX9_event_65 : decode cX9_event 65 = .ok (.irem, 1) := by decide +kernel
theorem dX9_event_66 : decode cX9_event 66 = .ok (.istore 5, 2) := by decide +kernel
theorem dX9_event_68 : decode cX9_event 68 = .ok (.iload_n 2, 1) := by decide +kernel
theorem dX9_event_69 : decode cX9_event 69 = .ok (.ifCond .ne 6, 3) := by decide +kernel
theorem dX9_event_72 : decode cX9_event 72 = .ok (.iload 4, 2) := by decide +kernel
theorem dX9_event_74 : decode cX9_event 74 = .ok (.ireturn, 1) := by decide +kernel
theorem dX9_event_75 : decode cX9_event 75 = .ok (.iload_n 2, 1) := by decide +kernel
theorem dX9_event_76 : decode cX9_event 76 = .ok (.iconst 1, 1) := by decide +kernel
theorem dX9_event_77 : decode cX9_event 77 = .ok (.if_icmp .ne 6, 3) := by decide +kernel
theorem dX9_event_80 : decode cX9_event 80 = .ok (.iload 5, 2) := by decide +kernel
theorem dX9_event_82 : decode cX9_event 82 = .ok (.ireturn, 1) := by decide +kernel
theorem dX9_event_83 : decode cX9_event 83 = .ok (.iload 5, 2) := by decide +kernel
theorem dX9_event_85 : decode cX9_event 85 = .ok (.iconst 1, 1) := by decide +kernel
theorem dX9_event_86 : decode cX9_event 86 = .ok (.if_icmp .ne 18, 3) := by decide +kernel
theorem dX9_event_89 : decode cX9_event 89 = .ok (.aload_n 0, 1) := by decide +kernel
theorem dX9_event_90 : decode cX9_event 90 = .ok (.getfield 12, 3) := by decide +kernel
theorem dX9_event_93 : decode cX9_event 93 = .ok (.getfield 199, 3) := by decide +kernel
theorem dX9_event_96 : decode cX9_event 96 = .ok (.iload 4, 2) := by decide +kernel
theorem dX9_event_98 : decode cX9_event 98 = .ok (.invokevirtual 317, 3) := by decide +kernel
theorem dX9_event_101 : decode cX9_event 101 = .ok (.goto 6, 3) := by decide +kernel
theorem dX9_event_104 : decode cX9_event 104 = .ok (.iload_n 3, 1) := by decide +kernel
theorem dX9_event_105 : decode cX9_event 105 = .ok (.iconst 4, 1) := by decide +kernel
theorem dX9_event_106 : decode cX9_event 106 = .ok (.irem, 1) := by decide +kernel
theorem dX9_event_107 : decode cX9_event 107 = .ok (.ireturn, 1) := by decide +kernel
theorem dX9_append_0 : decode cX9_append 0 = .ok (.iload_n 1, 1) := by decide +kernel
theorem dX9_append_1 : decode cX9_append 1 = .ok (.bipush 32, 2) := by decide +kernel
theorem dX9_append_3 : decode cX9_append 3 = .ok (.if_icmp .lt 9, 3) := by decide +kernel
theorem dX9_append_6 : decode cX9_append 6 = .ok (.iload_n 1, 1) := by decide +kernel
theorem dX9_append_7 : decode cX9_append 7 = .ok (.bipush 126, 2) := by decide +kernel
theorem dX9_append_9 : decode cX9_append 9 = .ok (.if_icmp .le 6, 3) := by decide +kernel
theorem dX9_append_12 : decode cX9_append 12 = .ok (.bipush (-2), 2) := by decide +kernel
theorem dX9_append_14 : decode cX9_append 14 = .ok (.ireturn, 1) := by decide +kernel
theorem dX9_append_15 : decode cX9_append 15 = .ok (.aload_n 0, 1) := by decide +kernel
theorem dX9_append_16 : decode cX9_append 16 = .ok (.getfield 57, 3) := by decide +kernel
theorem dX9_append_19 : decode cX9_append 19 = .ok (.iload_n 1, 1) := by decide +kernel
theorem dX9_append_20 : decode cX9_append 20 = .ok (.invokevirtual 320, 3) := by decide +kernel
theorem dX9_append_23 : decode cX9_append 23 = .ok (.ireturn, 1) := by decide +kernel
theorem dX9_execute_0 : decode cX9_execute 0 = .ok (.aload_n 0, 1) := by decide +kernel
theorem dX9_execute_1 : decode cX9_execute 1 = .ok (.getfield 57, 3) := by decide +kernel
theorem dX9_execute_4 : decode cX9_execute 4 = .ok (.invokevirtual 323, 3) := by decide +kernel
theorem dX9_execute_7 : decode cX9_execute 7 = .ok (.istore_n 1, 1) := by decide +kernel
theorem dX9_execute_8 : decode cX9_execute 8 = .ok (.aload_n 0, 1) := by decide +kernel
theorem dX9_execute_9 : decode cX9_execute 9 = .ok (.getfield 57, 3) := by decide +kernel
theorem dX9_execute_12 : decode cX9_execute 12 = .ok (.iconst 0, 1) := by decide +kernel
theorem dX9_execute_13 : decode cX9_execute 13 = .ok (.putfield 326, 3) := by decide +kernel
theorem dX9_execute_16 : decode cX9_execute 16 = .ok (.iload_n 1, 1) := by decide +kernel
theorem dX9_execute_17 : decode cX9_execute 17 = .ok (.ifCond .lt 9, 3) := by decide +kernel
theorem dX9_execute_20 : decode cX9_execute 20 = .ok (.sipush (-1000), 3) := by decide +kernel
theorem dX9_execute_23 : decode cX9_execute 23 = .ok (.iload_n 1, 1) := by decide +kernel
theorem dX9_execute_24 : decode cX9_execute 24 = .ok (.isub, 1) := by decide +kernel
theorem dX9_execute_25 : decode cX9_execute 25 = .ok (.ireturn, 1) := by decide +kernel
theorem dX9_execute_26 : decode cX9_execute 26 = .ok (.aload_n 0, 1) := by decide +kernel
theorem dX9_execute_27 : decode cX9_execute 27 = .ok (.getfield 12, 3) := by decide +kernel
theorem dX9_execute_30 : decode cX9_execute 30 = .ok (.aload_n 0, 1) := by decide +kernel
theorem dX9_execute_31 : decode cX9_execute 31 = .ok (.getfield 16, 3) := by decide +kernel
theorem dX9_execute_34 : decode cX9_execute 34 = .ok (.invokestatic 300, 3) := by decide +kernel
theorem dX9_execute_37 : decode cX9_execute 37 = .ok (.iconst 0, 1) := by decide +kernel
theorem dX9_execute_38 : decode cX9_execute 38 = .ok (.istore_n 2, 1) := by decide +kernel
theorem dX9_execute_39 : decode cX9_execute 39 = .ok (.iload_n 2, 1) := by decide +kernel
theorem dX9_execute_40 : decode cX9_execute 40 = .ok (.aload_n 0, 1) := by decide +kernel
theorem dX9_execute_41 : decode cX9_execute 41 = .ok (.getfield 57, 3) := by decide +kernel
theorem dX9_execute_44 : decode cX9_execute 44 = .ok (.getfield 329, 3) := by decide +kernel
theorem dX9_execute_47 : decode cX9_execute 47 = .ok (.if_icmp .ge 69, 3) := by decide +kernel
theorem dX9_execute_50 : decode cX9_execute 50 = .ok (.aload_n 0, 1) := by decide +kernel
theorem dX9_execute_51 : decode cX9_execute 51 = .ok (.aload_n 0, 1) := by decide +kernel
theorem dX9_execute_52 : decode cX9_execute 52 = .ok (.getfield 57, 3) := by decide +kernel
theorem dX9_execute_55 : decode cX9_execute 55 = .ok (.getfield 332, 3) := by decide +kernel
theorem dX9_execute_58 : decode cX9_execute 58 = .ok (.iload_n 2, 1) := by decide +kernel
theorem dX9_execute_59 : decode cX9_execute 59 = .ok (.iaload, 1) := by decide +kernel
theorem dX9_execute_60 : decode cX9_execute 60 = .ok (.aload_n 0, 1) := by decide +kernel
theorem dX9_execute_61 : decode cX9_execute 61 = .ok (.getfield 57, 3) := by decide +kernel
theorem dX9_execute_64 : decode cX9_execute 64 = .ok (.getfield 335, 3) := by decide +kernel
theorem dX9_execute_67 : decode cX9_execute 67 = .ok (.iload_n 2, 1) := by decide +kernel
theorem dX9_execute_68 : decode cX9_execute 68 = .ok (.iaload, 1) := by decide +kernel
theorem dX9_execute_69 : decode cX9_execute 69 = .ok (.aload_n 0, 1) := by decide +kernel
theorem dX9_execute_70 : decode cX9_execute 70 = .ok (.getfield 57, 3) := by decide +kernel
theorem dX9_execute_73 : decode cX9_execute 73 = .ok (.getfield 336, 3) := by decide +kernel
theorem dX9_execute_76 : decode cX9_execute 76 = .ok (.iload_n 2, 1) := by decide +kernel
theorem dX9_execute_77 : decode cX9_execute 77 = .ok (.iaload, 1) := by decide +kernel
theorem dX9_execute_78 : decode cX9_execute 78 = .ok (.invokevirtual 339, 3) := by decide +kernel
theorem dX9_execute_81 : decode cX9_execute 81 = .ok (.istore_n 3, 1) := by decide +kernel
theorem dX9_execute_82 : decode cX9_execute 82 = .ok (.iload_n 3, 1) := by decide +kernel
theorem dX9_execute_83 : decode cX9_execute 83 = .ok (.ifCond .ge 27, 3) := by decide +kernel
theorem dX9_execute_86 : decode cX9_execute 86 = .ok (.aload_n 0, 1) := by decide +kernel
theorem dX9_execute_87 : decode cX9_execute 87 = .ok (.getfield 16, 3) := by decide +kernel
theorem dX9_execute_90 : decode cX9_execute 90 = .ok (.aload_n 0, 1) := by decide +kernel
theorem dX9_execute_91 : decode cX9_execute 91 = .ok (.getfield 12, 3) := by decide +kernel
theorem dX9_execute_94 : decode cX9_execute 94 = .ok (.invokestatic 300, 3) := by decide +kernel
theorem dX9_execute_97 : decode cX9_execute 97 = .ok (.aload_n 0, 1) := by decide +kernel
theorem dX9_execute_98 : decode cX9_execute 98 = .ok (.iload_n 3, 1) := by decide +kernel
theorem dX9_execute_99 : decode cX9_execute 99 = .ok (.putfield 342, 3) := by decide +kernel
theorem dX9_execute_102 : decode cX9_execute 102 = .ok (.aload_n 0, 1) := by decide +kernel
theorem dX9_execute_103 : decode cX9_execute 103 = .ok (.iload_n 2, 1) := by decide +kernel
theorem dX9_execute_104 : decode cX9_execute 104 = .ok (.putfield 345, 3) := by decide +kernel
theorem dX9_execute_107 : decode cX9_execute 107 = .ok (.bipush (-5), 2) := by decide +kernel
theorem dX9_execute_109 : decode cX9_execute 109 = .ok (.ireturn, 1) := by decide +kernel
theorem dX9_execute_110 : decode cX9_execute 110 = .ok (.iinc 2 1, 3) := by decide +kernel
theorem dX9_execute_113 : decode cX9_execute 113 = .ok (.goto (-74), 3) := by decide +kernel
theorem dX9_execute_116 : decode cX9_execute 116 = .ok (.aload_n 0, 1) := by decide +kernel
theorem dX9_execute_117 : decode cX9_execute 117 = .ok (.aload_n 0, 1) := by decide +kernel
theorem dX9_execute_118 : decode cX9_execute 118 = .ok (.getfield 57, 3) := by decide +kernel
theorem dX9_execute_121 : decode cX9_execute 121 = .ok (.getfield 329, 3) := by decide +kernel
theorem dX9_execute_124 : decode cX9_execute 124 = .ok (.invokevirtual 72, 3) := by decide +kernel
theorem dX9_execute_127 : decode cX9_execute 127 = .ok (.ireturn, 1) := by decide +kernel
theorem dX9_refused_0 : decode cX9_refused 0 = .ok (.iload_n 1, 1) := by decide +kernel
theorem dX9_refused_1 : decode cX9_refused 1 = .ok (.ifCond .lt 8, 3) := by decide +kernel
theorem dX9_refused_4 : decode cX9_refused 4 = .ok (.iload_n 1, 1) := by decide +kernel
theorem dX9_refused_5 : decode cX9_refused 5 = .ok (.iconst 1, 1) := by decide +kernel
theorem dX9_refused_6 : decode cX9_refused 6 = .ok (.if_icmp .le 6, 3) := by decide +kernel
theorem dX9_refused_9 : decode cX9_refused 9 = .ok (.bipush (-2), 2) := by decide +kernel
theorem dX9_refused_11 : decode cX9_refused 11 = .ok (.ireturn, 1) := by decide +kernel
theorem dX9_refused_12 : decode cX9_refused 12 = .ok (.aload_n 0, 1) := by decide +kernel
theorem dX9_refused_13 : decode cX9_refused 13 = .ok (.getfield 342, 3) := by decide +kernel
theorem dX9_refused_16 : decode cX9_refused 16 = .ok (.ifCond .ne 6, 3) := by decide +kernel
theorem dX9_refused_19 : decode cX9_refused 19 = .ok (.bipush (-6), 2) := by decide +kernel
theorem dX9_refused_21 : decode cX9_refused 21 = .ok (.ireturn, 1) := by decide +kernel
theorem dX9_refused_22 : decode cX9_refused 22 = .ok (.iload_n 1, 1) := by decide +kernel
theorem dX9_refused_23 : decode cX9_refused 23 = .ok (.ifCond .ne 10, 3) := by decide +kernel
theorem dX9_refused_26 : decode cX9_refused 26 = .ok (.aload_n 0, 1) := by decide +kernel
theorem dX9_refused_27 : decode cX9_refused 27 = .ok (.getfield 342, 3) := by decide +kernel
theorem dX9_refused_30 : decode cX9_refused 30 = .ok (.goto 7, 3) := by decide +kernel
theorem dX9_refused_33 : decode cX9_refused 33 = .ok (.aload_n 0, 1) := by decide +kernel
theorem dX9_refused_34 : decode cX9_refused 34 = .ok (.getfield 345, 3) := by decide +kernel
theorem dX9_refused_37 : decode cX9_refused 37 = .ok (.ireturn, 1) := by decide +kernel
theorem dX9_write_0 : decode cX9_write 0 = .ok (.aload_n 0, 1) := by decide +kernel
theorem dX9_write_1 : decode cX9_write 1 = .ok (.getfield 64, 3) := by decide +kernel
theorem dX9_write_4 : decode cX9_write 4 = .ok (.iconst 0, 1) := by decide +kernel
theorem dX9_write_5 : decode cX9_write 5 = .ok (.putfield 348, 3) := by decide +kernel
theorem dX9_write_8 : decode cX9_write 8 = .ok (.iconst 0, 1) := by decide +kernel
theorem dX9_write_9 : decode cX9_write 9 = .ok (.istore_n 1, 1) := by decide +kernel
theorem dX9_write_10 : decode cX9_write 10 = .ok (.iload_n 1, 1) := by decide +kernel
theorem dX9_write_11 : decode cX9_write 11 = .ok (.aload_n 0, 1) := by decide +kernel
theorem dX9_write_12 : decode cX9_write 12 = .ok (.getfield 12, 3) := by decide +kernel
theorem dX9_write_15 : decode cX9_write 15 = .ok (.getfield 199, 3) := by decide +kernel
theorem dX9_write_18 : decode cX9_write 18 = .ok (.getfield 349, 3) := by decide +kernel
theorem dX9_write_21 : decode cX9_write 21 = .ok (.if_icmp .ge 78, 3) := by decide +kernel
theorem dX9_write_24 : decode cX9_write 24 = .ok (.iload_n 1, 1) := by decide +kernel
theorem dX9_write_25 : decode cX9_write 25 = .ok (.ifCond .le 12, 3) := by decide +kernel
theorem dX9_write_28 : decode cX9_write 28 = .ok (.aload_n 0, 1) := by decide +kernel
theorem dX9_write_29 : decode cX9_write 29 = .ok (.getfield 64, 3) := by decide +kernel
theorem dX9_write_32 : decode cX9_write 32 = .ok (.bipush 59, 2) := by decide +kernel
theorem dX9_write_34 : decode cX9_write 34 = .ok (.invokevirtual 352, 3) := by decide +kernel
theorem dX9_write_37 : decode cX9_write 37 = .ok (.aload_n 0, 1) := by decide +kernel
theorem dX9_write_38 : decode cX9_write 38 = .ok (.getfield 64, 3) := by decide +kernel
theorem dX9_write_41 : decode cX9_write 41 = .ok (.bipush 99, 2) := by decide +kernel
theorem dX9_write_43 : decode cX9_write 43 = .ok (.invokevirtual 352, 3) := by decide +kernel
theorem dX9_write_46 : decode cX9_write 46 = .ok (.aload_n 0, 1) := by decide +kernel
theorem dX9_write_47 : decode cX9_write 47 = .ok (.getfield 64, 3) := by decide +kernel
theorem dX9_write_50 : decode cX9_write 50 = .ok (.aload_n 0, 1) := by decide +kernel
theorem dX9_write_51 : decode cX9_write 51 = .ok (.getfield 12, 3) := by decide +kernel
theorem dX9_write_54 : decode cX9_write 54 = .ok (.getfield 199, 3) := by decide +kernel
theorem dX9_write_57 : decode cX9_write 57 = .ok (.getfield 210, 3) := by decide +kernel
theorem dX9_write_60 : decode cX9_write 60 = .ok (.iload_n 1, 1) := by decide +kernel
theorem dX9_write_61 : decode cX9_write 61 = .ok (.iaload, 1) := by decide +kernel
theorem dX9_write_62 : decode cX9_write 62 = .ok (.invokevirtual 355, 3) := by decide +kernel
theorem dX9_write_65 : decode cX9_write 65 = .ok (.aload_n 0, 1) := by decide +kernel
theorem dX9_write_66 : decode cX9_write 66 = .ok (.getfield 64, 3) := by decide +kernel
theorem dX9_write_69 : decode cX9_write 69 = .ok (.bipush 61, 2) := by decide +kernel
theorem dX9_write_71 : decode cX9_write 71 = .ok (.invokevirtual 352, 3) := by decide +kernel
theorem dX9_write_74 : decode cX9_write 74 = .ok (.aload_n 0, 1) := by decide +kernel
theorem dX9_write_75 : decode cX9_write 75 = .ok (.getfield 64, 3) := by decide +kernel
theorem dX9_write_78 : decode cX9_write 78 = .ok (.aload_n 0, 1) := by decide +kernel
theorem dX9_write_79 : decode cX9_write 79 = .ok (.getfield 12, 3) := by decide +kernel
theorem dX9_write_82 : decode cX9_write 82 = .ok (.getfield 199, 3) := by decide +kernel
theorem dX9_write_85 : decode cX9_write 85 = .ok (.getfield 213, 3) := by decide +kernel
theorem dX9_write_88 : decode cX9_write 88 = .ok (.iload_n 1, 1) := by decide +kernel
theorem dX9_write_89 : decode cX9_write 89 = .ok (.iaload, 1) := by decide +kernel
theorem dX9_write_90 : decode cX9_write 90 = .ok (.invokevirtual 355, 3) := by decide +kernel
theorem dX9_write_93 : decode cX9_write 93 = .ok (.iinc 1 1, 3) := by decide +kernel
theorem dX9_write_96 : decode cX9_write 96 = .ok (.goto (-86), 3) := by decide +kernel
theorem dX9_write_99 : decode cX9_write 99 = .ok (.aload_n 0, 1) := by decide +kernel
theorem dX9_write_100 : decode cX9_write 100 = .ok (.getfield 64, 3) := by decide +kernel
theorem dX9_write_103 : decode cX9_write 103 = .ok (.getfield 348, 3) := by decide +kernel
theorem dX9_write_106 : decode cX9_write 106 = .ok (.ireturn, 1) := by decide +kernel
theorem dX9_written_0 : decode cX9_written 0 = .ok (.iload_n 1, 1) := by decide +kernel
theorem dX9_written_1 : decode cX9_written 1 = .ok (.ifCond .lt 14, 3) := by decide +kernel
theorem dX9_written_4 : decode cX9_written 4 = .ok (.iload_n 1, 1) := by decide +kernel
theorem dX9_written_5 : decode cX9_written 5 = .ok (.aload_n 0, 1) := by decide +kernel
theorem dX9_written_6 : decode cX9_written 6 = .ok (.getfield 64, 3) := by decide +kernel
theorem dX9_written_9 : decode cX9_written 9 = .ok (.getfield 348, 3) := by decide +kernel
theorem dX9_written_12 : decode cX9_written 12 = .ok (.if_icmp .lt 7, 3) := by decide +kernel
theorem dX9_written_15 : decode cX9_written 15 = .ok (.iconst (-1), 1) := by decide +kernel
theorem dX9_written_16 : decode cX9_written 16 = .ok (.goto 12, 3) := by decide +kernel
theorem dX9_written_19 : decode cX9_written 19 = .ok (.aload_n 0, 1) := by decide +kernel
theorem dX9_written_20 : decode cX9_written 20 = .ok (.getfield 64, 3) := by decide +kernel
theorem dX9_written_23 : decode cX9_written 23 = .ok (.getfield 358, 3) := by decide +kernel
theorem dX9_written_26 : decode cX9_written 26 = .ok (.iload_n 1, 1) := by decide +kernel
theorem dX9_written_27 : decode cX9_written 27 = .ok (.iaload, 1) := by decide +kernel
theorem dX9_written_28 : decode cX9_written 28 = .ok (.ireturn, 1) := by decide +kernel
theorem dX9_begin_0 : decode cX9_begin 0 = .ok (.aload_n 0, 1) := by decide +kernel
theorem dX9_begin_1 : decode cX9_begin 1 = .ok (.getfield 25, 3) := by decide +kernel
theorem dX9_begin_4 : decode cX9_begin 4 = .ok (.getfield 361, 3) := by decide +kernel
theorem dX9_begin_7 : decode cX9_begin 7 = .ok (.ifCond .eq 6, 3) := by decide +kernel
theorem dX9_begin_10 : decode cX9_begin 10 = .ok (.bipush (-5), 2) := by decide +kernel
theorem dX9_begin_12 : decode cX9_begin 12 = .ok (.ireturn, 1) := by decide +kernel
theorem dX9_begin_13 : decode cX9_begin 13 = .ok (.aload_n 0, 1) := by decide +kernel
theorem dX9_begin_14 : decode cX9_begin 14 = .ok (.getfield 25, 3) := by decide +kernel
theorem dX9_begin_17 : decode cX9_begin 17 = .ok (.iconst 1, 1) := by decide +kernel
theorem dX9_begin_18 : decode cX9_begin 18 = .ok (.putfield 361, 3) := by decide +kernel
theorem dX9_begin_21 : decode cX9_begin 21 = .ok (.aload_n 0, 1) := by decide +kernel
theorem dX9_begin_22 : decode cX9_begin 22 = .ok (.getfield 25, 3) := by decide +kernel
theorem dX9_begin_25 : decode cX9_begin 25 = .ok (.iconst 0, 1) := by decide +kernel
theorem dX9_begin_26 : decode cX9_begin 26 = .ok (.putfield 364, 3) := by decide +kernel
theorem dX9_begin_29 : decode cX9_begin 29 = .ok (.aload_n 0, 1) := by decide +kernel
theorem dX9_begin_30 : decode cX9_begin 30 = .ok (.getfield 25, 3) := by decide +kernel
theorem dX9_begin_33 : decode cX9_begin 33 = .ok (.getfield 367, 3) := by decide +kernel
theorem dX9_begin_36 : decode cX9_begin 36 = .ok (.ireturn, 1) := by decide +kernel
theorem dX9_end_0 : decode cX9_end 0 = .ok (.aload_n 0, 1) := by decide +kernel
theorem dX9_end_1 : decode cX9_end 1 = .ok (.getfield 25, 3) := by decide +kernel
theorem dX9_end_4 : decode cX9_end 4 = .ok (.getfield 361, 3) := by decide +kernel
theorem dX9_end_7 : decode cX9_end 7 = .ok (.ifCond .ne 6, 3) := by decide +kernel
theorem dX9_end_10 : decode cX9_end 10 = .ok (.bipush (-5), 2) := by decide +kernel
theorem dX9_end_12 : decode cX9_end 12 = .ok (.ireturn, 1) := by decide +kernel
theorem dX9_end_13 : decode cX9_end 13 = .ok (.aload_n 0, 1) := by decide +kernel
theorem dX9_end_14 : decode cX9_end 14 = .ok (.getfield 25, 3) := by decide +kernel
theorem dX9_end_17 : decode cX9_end 17 = .ok (.iconst 0, 1) := by decide +kernel
theorem dX9_end_18 : decode cX9_end 18 = .ok (.putfield 361, 3) := by decide +kernel
theorem dX9_end_21 : decode cX9_end 21 = .ok (.aload_n 0, 1) := by decide +kernel
theorem dX9_end_22 : decode cX9_end 22 = .ok (.getfield 25, 3) := by decide +kernel
theorem dX9_end_25 : decode cX9_end 25 = .ok (.getfield 364, 3) := by decide +kernel
theorem dX9_end_28 : decode cX9_end 28 = .ok (.ifCond .le 14, 3) := by decide +kernel
theorem dX9_end_31 : decode cX9_end 31 = .ok (.aload_n 0, 1) := by decide +kernel
theorem dX9_end_32 : decode cX9_end 32 = .ok (.getfield 25, 3) := by decide +kernel
theorem dX9_end_35 : decode cX9_end 35 = .ok (.aload_n 0, 1) := by decide +kernel
theorem dX9_end_36 : decode cX9_end 36 = .ok (.getfield 12, 3) := by decide +kernel
theorem dX9_end_39 : decode cX9_end 39 = .ok (.invokevirtual 370, 3) := by decide +kernel
theorem dX9_end_42 : decode cX9_end 42 = .ok (.aload_n 0, 1) := by decide +kernel
theorem dX9_end_43 : decode cX9_end 43 = .ok (.getfield 25, 3) := by decide +kernel
theorem dX9_end_46 : decode cX9_end 46 = .ok (.getfield 364, 3) := by decide +kernel
theorem dX9_end_49 : decode cX9_end 49 = .ok (.ireturn, 1) := by decide +kernel
theorem dX9_undo_0 : decode cX9_undo 0 = .ok (.aload_n 0, 1) := by decide +kernel
theorem dX9_undo_1 : decode cX9_undo 1 = .ok (.getfield 25, 3) := by decide +kernel
theorem dX9_undo_4 : decode cX9_undo 4 = .ok (.getfield 361, 3) := by decide +kernel
theorem dX9_undo_7 : decode cX9_undo 7 = .ok (.ifCond .eq 6, 3) := by decide +kernel
theorem dX9_undo_10 : decode cX9_undo 10 = .ok (.bipush (-5), 2) := by decide +kernel
theorem dX9_undo_12 : decode cX9_undo 12 = .ok (.ireturn, 1) := by decide +kernel
theorem dX9_undo_13 : decode cX9_undo 13 = .ok (.aload_n 0, 1) := by decide +kernel
theorem dX9_undo_14 : decode cX9_undo 14 = .ok (.getfield 25, 3) := by decide +kernel
theorem dX9_undo_17 : decode cX9_undo 17 = .ok (.getfield 367, 3) := by decide +kernel
theorem dX9_undo_20 : decode cX9_undo 20 = .ok (.ifCond .ne 6, 3) := by decide +kernel
theorem dX9_undo_23 : decode cX9_undo 23 = .ok (.bipush (-6), 2) := by decide +kernel
theorem dX9_undo_25 : decode cX9_undo 25 = .ok (.ireturn, 1) := by decide +kernel
theorem dX9_undo_26 : decode cX9_undo 26 = .ok (.aload_n 0, 1) := by decide +kernel
theorem dX9_undo_27 : decode cX9_undo 27 = .ok (.getfield 25, 3) := by decide +kernel
theorem dX9_undo_30 : decode cX9_undo 30 = .ok (.aload_n 0, 1) := by decide +kernel
theorem dX9_undo_31 : decode cX9_undo 31 = .ok (.getfield 12, 3) := by decide +kernel
theorem dX9_undo_34 : decode cX9_undo 34 = .ok (.invokevirtual 373, 3) := by decide +kernel
theorem dX9_undo_37 : decode cX9_undo 37 = .ok (.aload_n 0, 1) := by decide +kernel
theorem dX9_undo_38 : decode cX9_undo 38 = .ok (.getfield 34, 3) := by decide +kernel
theorem dX9_undo_41 : decode cX9_undo 41 = .ok (.iconst 1, 1) := by decide +kernel
theorem dX9_undo_42 : decode cX9_undo 42 = .ok (.putfield 304, 3) := by decide +kernel
theorem dX9_undo_45 : decode cX9_undo 45 = .ok (.aload_n 0, 1) := by decide +kernel
theorem dX9_undo_46 : decode cX9_undo 46 = .ok (.getfield 25, 3) := by decide +kernel
theorem dX9_undo_49 : decode cX9_undo 49 = .ok (.getfield 367, 3) := by decide +kernel
theorem dX9_undo_52 : decode cX9_undo 52 = .ok (.ireturn, 1) := by decide +kernel
theorem dX9_redo_0 : decode cX9_redo 0 = .ok (.aload_n 0, 1) := by decide +kernel
theorem dX9_redo_1 : decode cX9_redo 1 = .ok (.getfield 25, 3) := by decide +kernel
theorem dX9_redo_4 : decode cX9_redo 4 = .ok (.getfield 361, 3) := by decide +kernel
theorem dX9_redo_7 : decode cX9_redo 7 = .ok (.ifCond .eq 6, 3) := by decide +kernel
theorem dX9_redo_10 : decode cX9_redo 10 = .ok (.bipush (-5), 2) := by decide +kernel
theorem dX9_redo_12 : decode cX9_redo 12 = .ok (.ireturn, 1) := by decide +kernel
theorem dX9_redo_13 : decode cX9_redo 13 = .ok (.aload_n 0, 1) := by decide +kernel
theorem dX9_redo_14 : decode cX9_redo 14 = .ok (.getfield 25, 3) := by decide +kernel
theorem dX9_redo_17 : decode cX9_redo 17 = .ok (.getfield 376, 3) := by decide +kernel
theorem dX9_redo_20 : decode cX9_redo 20 = .ok (.ifCond .ne 6, 3) := by decide +kernel
theorem dX9_redo_23 : decode cX9_redo 23 = .ok (.bipush (-6), 2) := by decide +kernel
theorem dX9_redo_25 : decode cX9_redo 25 = .ok (.ireturn, 1) := by decide +kernel
theorem dX9_redo_26 : decode cX9_redo 26 = .ok (.aload_n 0, 1) := by decide +kernel
theorem dX9_redo_27 : decode cX9_redo 27 = .ok (.getfield 25, 3) := by decide +kernel
theorem dX9_redo_30 : decode cX9_redo 30 = .ok (.aload_n 0, 1) := by decide +kernel
theorem dX9_redo_31 : decode cX9_redo 31 = .ok (.getfield 12, 3) := by decide +kernel
theorem dX9_redo_34 : decode cX9_redo 34 = .ok (.invokevirtual 379, 3) := by decide +kernel
theorem dX9_redo_37 : decode cX9_redo 37 = .ok (.aload_n 0, 1) := by decide +kernel
theorem dX9_redo_38 : decode cX9_redo 38 = .ok (.getfield 34, 3) := by decide +kernel
theorem dX9_redo_41 : decode cX9_redo 41 = .ok (.iconst 1, 1) := by decide +kernel
theorem dX9_redo_42 : decode cX9_redo 42 = .ok (.putfield 304, 3) := by decide +kernel
theorem dX9_redo_45 : decode cX9_redo 45 = .ok (.aload_n 0, 1) := by decide +kernel
theorem dX9_redo_46 : decode cX9_redo 46 = .ok (.getfield 25, 3) := by decide +kernel
theorem dX9_redo_49 : decode cX9_redo 49 = .ok (.getfield 376, 3) := by decide +kernel
theorem dX9_redo_52 : decode cX9_redo 52 = .ok (.ireturn, 1) := by decide +kernel
theorem dX9_save_0 : decode cX9_save 0 = .ok (.aload_n 0, 1) := by decide +kernel
theorem dX9_save_1 : decode cX9_save 1 = .ok (.getfield 12, 3) := by decide +kernel
theorem dX9_save_4 : decode cX9_save 4 = .ok (.aload_n 0, 1) := by decide +kernel
theorem dX9_save_5 : decode cX9_save 5 = .ok (.getfield 19, 3) := by decide +kernel
theorem dX9_save_8 : decode cX9_save 8 = .ok (.invokestatic 300, 3) := by decide +kernel
theorem dX9_save_11 : decode cX9_save 11 = .ok (.aload_n 0, 1) := by decide +kernel
theorem dX9_save_12 : decode cX9_save 12 = .ok (.iconst 1, 1) := by decide +kernel
theorem dX9_save_13 : decode cX9_save 13 = .ok (.putfield 382, 3) := by decide +kernel
theorem dX9_save_16 : decode cX9_save 16 = .ok (.aload_n 0, 1) := by decide +kernel
theorem dX9_save_17 : decode cX9_save 17 = .ok (.getfield 12, 3) := by decide +kernel
theorem dX9_save_20 : decode cX9_save 20 = .ok (.getfield 80, 3) := by decide +kernel
theorem dX9_save_23 : decode cX9_save 23 = .ok (.getfield 385, 3) := by decide +kernel
theorem dX9_save_26 : decode cX9_save 26 = .ok (.ireturn, 1) := by decide +kernel
theorem dX9_restore_0 : decode cX9_restore 0 = .ok (.aload_n 0, 1) := by decide +kernel
theorem dX9_restore_1 : decode cX9_restore 1 = .ok (.getfield 25, 3) := by decide +kernel
theorem dX9_restore_4 : decode cX9_restore 4 = .ok (.getfield 361, 3) := by decide +kernel
theorem dX9_restore_7 : decode cX9_restore 7 = .ok (.ifCond .eq 6, 3) := by decide +kernel
theorem dX9_restore_10 : decode cX9_restore 10 = .ok (.bipush (-5), 2) := by decide +kernel
theorem dX9_restore_12 : decode cX9_restore 12 = .ok (.ireturn, 1) := by decide +kernel
theorem dX9_restore_13 : decode cX9_restore 13 = .ok (.aload_n 0, 1) := by decide +kernel
theorem dX9_restore_14 : decode cX9_restore 14 = .ok (.getfield 382, 3) := by decide +kernel
theorem dX9_restore_17 : decode cX9_restore 17 = .ok (.ifCond .ne 6, 3) := by decide +kernel
theorem dX9_restore_20 : decode cX9_restore 20 = .ok (.bipush (-6), 2) := by decide +kernel
theorem dX9_restore_22 : decode cX9_restore 22 = .ok (.ireturn, 1) := by decide +kernel
theorem dX9_restore_23 : decode cX9_restore 23 = .ok (.aload_n 0, 1) := by decide +kernel
theorem dX9_restore_24 : decode cX9_restore 24 = .ok (.getfield 19, 3) := by decide +kernel
theorem dX9_restore_27 : decode cX9_restore 27 = .ok (.aload_n 0, 1) := by decide +kernel
theorem dX9_restore_28 : decode cX9_restore 28 = .ok (.getfield 12, 3) := by decide +kernel
theorem dX9_restore_31 : decode cX9_restore 31 = .ok (.invokestatic 300, 3) := by decide +kernel
theorem dX9_restore_34 : decode cX9_restore 34 = .ok (.aload_n 0, 1) := by decide +kernel
theorem dX9_restore_35 : decode cX9_restore 35 = .ok (.getfield 25, 3) := by decide +kernel
theorem dX9_restore_38 : decode cX9_restore 38 = .ok (.aload_n 0, 1) := by decide +kernel
theorem dX9_restore_39 : decode cX9_restore 39 = .ok (.getfield 12, 3) := by decide +kernel
theorem dX9_restore_42 : decode cX9_restore 42 = .ok (.invokevirtual 386, 3) := by decide +kernel
theorem dX9_restore_45 : decode cX9_restore 45 = .ok (.aload_n 0, 1) := by decide +kernel
theorem dX9_restore_46 : decode cX9_restore 46 = .ok (.getfield 34, 3) := by decide +kernel
theorem dX9_restore_49 : decode cX9_restore 49 = .ok (.iconst 1, 1) := by decide +kernel
theorem dX9_restore_50 : decode cX9_restore 50 = .ok (.putfield 304, 3) := by decide +kernel
theorem dX9_restore_53 : decode cX9_restore 53 = .ok (.aload_n 0, 1) := by decide +kernel
theorem dX9_restore_54 : decode cX9_restore 54 = .ok (.getfield 12, 3) := by decide +kernel
theorem dX9_restore_57 : decode cX9_restore 57 = .ok (.getfield 80, 3) := by decide +kernel
theorem dX9_restore_60 : decode cX9_restore 60 = .ok (.getfield 385, 3) := by decide +kernel
theorem dX9_restore_63 : decode cX9_restore 63 = .ok (.ireturn, 1) := by decide +kernel
theorem dX9_count_0 : decode cX9_count 0 = .ok (.iload_n 1, 1) := by decide +kernel
theorem dX9_count_1 : decode cX9_count 1 = .ok (.tableswitch 125 0 7 #[47, 55, 66, 77, 85, 93, 101, 117], 47) := by decide +kernel
theorem dX9_count_48 : decode cX9_count 48 = .ok (.aload_n 0, 1) := by decide +kernel
theorem dX9_count_49 : decode cX9_count 49 = .ok (.getfield 12, 3) := by decide +kernel
theorem dX9_count_52 : decode cX9_count 52 = .ok (.getfield 389, 3) := by decide +kernel
theorem dX9_count_55 : decode cX9_count 55 = .ok (.ireturn, 1) := by decide +kernel
theorem dX9_count_56 : decode cX9_count 56 = .ok (.aload_n 0, 1) := by decide +kernel
theorem dX9_count_57 : decode cX9_count 57 = .ok (.getfield 12, 3) := by decide +kernel
theorem dX9_count_60 : decode cX9_count 60 = .ok (.getfield 80, 3) := by decide +kernel
theorem dX9_count_63 : decode cX9_count 63 = .ok (.getfield 385, 3) := by decide +kernel
theorem dX9_count_66 : decode cX9_count 66 = .ok (.ireturn, 1) := by decide +kernel
theorem dX9_count_67 : decode cX9_count 67 = .ok (.aload_n 0, 1) := by decide +kernel
theorem dX9_count_68 : decode cX9_count 68 = .ok (.getfield 12, 3) := by decide +kernel
theorem dX9_count_71 : decode cX9_count 71 = .ok (.getfield 199, 3) := by decide +kernel
theorem dX9_count_74 : decode cX9_count 74 = .ok (.getfield 349, 3) := by decide +kernel
theorem dX9_count_77 : decode cX9_count 77 = .ok (.ireturn, 1) := by decide +kernel
theorem dX9_count_78 : decode cX9_count 78 = .ok (.aload_n 0, 1) := by decide +kernel
theorem dX9_count_79 : decode cX9_count 79 = .ok (.getfield 12, 3) := by decide +kernel
theorem dX9_count_82 : decode cX9_count 82 = .ok (.invokevirtual 311, 3) := by decide +kernel
theorem dX9_count_85 : decode cX9_count 85 = .ok (.ireturn, 1) := by decide +kernel
theorem dX9_count_86 : decode cX9_count 86 = .ok (.aload_n 0, 1) := by decide +kernel
theorem dX9_count_87 : decode cX9_count 87 = .ok (.getfield 25, 3) := by decide +kernel
theorem dX9_count_90 : decode cX9_count 90 = .ok (.getfield 367, 3) := by decide +kernel
theorem dX9_count_93 : decode cX9_count 93 = .ok (.ireturn, 1) := by decide +kernel
theorem dX9_count_94 : decode cX9_count 94 = .ok (.aload_n 0, 1) := by decide +kernel
theorem dX9_count_95 : decode cX9_count 95 = .ok (.getfield 25, 3) := by decide +kernel
theorem dX9_count_98 : decode cX9_count 98 = .ok (.getfield 376, 3) := by decide +kernel
theorem dX9_count_101 : decode cX9_count 101 = .ok (.ireturn, 1) := by decide +kernel
theorem dX9_count_102 : decode cX9_count 102 = .ok (.aload_n 0, 1) := by decide +kernel
theorem dX9_count_103 : decode cX9_count 103 = .ok (.getfield 25, 3) := by decide +kernel
theorem dX9_count_106 : decode cX9_count 106 = .ok (.getfield 361, 3) := by decide +kernel
theorem dX9_count_109 : decode cX9_count 109 = .ok (.ifCond .eq 7, 3) := by decide +kernel
theorem dX9_count_112 : decode cX9_count 112 = .ok (.iconst 1, 1) := by decide +kernel
theorem dX9_count_113 : decode cX9_count 113 = .ok (.goto 4, 3) := by decide +kernel
theorem dX9_count_116 : decode cX9_count 116 = .ok (.iconst 0, 1) := by decide +kernel
theorem dX9_count_117 : decode cX9_count 117 = .ok (.ireturn, 1) := by decide +kernel
theorem dX9_count_118 : decode cX9_count 118 = .ok (.aload_n 0, 1) := by decide +kernel
theorem dX9_count_119 : decode cX9_count 119 = .ok (.getfield 57, 3) := by decide +kernel
theorem dX9_count_122 : decode cX9_count 122 = .ok (.getfield 326, 3) := by decide +kernel
theorem dX9_count_125 : decode cX9_count 125 = .ok (.ireturn, 1) := by decide +kernel
theorem dX9_count_126 : decode cX9_count 126 = .ok (.iload_n 1, 1) := by decide +kernel
theorem dX9_count_127 : decode cX9_count 127 = .ok (.bipush 8, 2) := by decide +kernel
theorem dX9_count_129 : decode cX9_count 129 = .ok (.if_icmp .lt 9, 3) := by decide +kernel
theorem dX9_count_132 : decode cX9_count 132 = .ok (.iload_n 1, 1) := by decide +kernel
theorem dX9_count_133 : decode cX9_count 133 = .ok (.bipush 13, 2) := by decide +kernel
theorem dX9_count_135 : decode cX9_count 135 = .ok (.if_icmp .lt 8, 3) := by decide +kernel
theorem dX9_count_138 : decode cX9_count 138 = .ok (.bipush (-2), 2) := by decide +kernel
theorem dX9_count_140 : decode cX9_count 140 = .ok (.goto 15, 3) := by decide +kernel
theorem dX9_count_143 : decode cX9_count 143 = .ok (.aload_n 0, 1) := by decide +kernel
theorem dX9_count_144 : decode cX9_count 144 = .ok (.getfield 12, 3) := by decide +kernel
theorem dX9_count_147 : decode cX9_count 147 = .ok (.getfield 275, 3) := by decide +kernel
theorem dX9_count_150 : decode cX9_count 150 = .ok (.iload_n 1, 1) := by decide +kernel
theorem dX9_count_151 : decode cX9_count 151 = .ok (.bipush 8, 2) := by decide +kernel
theorem dX9_count_153 : decode cX9_count 153 = .ok (.isub, 1) := by decide +kernel
theorem dX9_count_154 : decode cX9_count 154 = .ok (.iaload, 1) := by decide +kernel
theorem dX9_count_155 : decode cX9_count 155 = .ok (.ireturn, 1) := by decide +kernel
theorem dX9_isTrack_0 : decode cX9_isTrack 0 = .ok (.iload_n 0, 1) := by decide +kernel
theorem dX9_isTrack_1 : decode cX9_isTrack 1 = .ok (.ifCond .lt 12, 3) := by decide +kernel
theorem dX9_isTrack_4 : decode cX9_isTrack 4 = .ok (.iload_n 0, 1) := by decide +kernel
theorem dX9_isTrack_5 : decode cX9_isTrack 5 = .ok (.iconst 4, 1) := by decide +kernel
theorem dX9_isTrack_6 : decode cX9_isTrack 6 = .ok (.if_icmp .ge 7, 3) := by decide +kernel
theorem dX9_isTrack_9 : decode cX9_isTrack 9 = .ok (.iconst 1, 1) := by decide +kernel
theorem dX9_isTrack_10 : decode cX9_isTrack 10 = .ok (.goto 4, 3) := by decide +kernel
theorem dX9_isTrack_13 : decode cX9_isTrack 13 = .ok (.iconst 0, 1) := by decide +kernel
theorem dX9_isTrack_14 : decode cX9_isTrack 14 = .ok (.ireturn, 1) := by decide +kernel
theorem dX9_isFrame_0 : decode cX9_isFrame 0 = .ok (.iload_n 0, 1) := by decide +kernel
theorem dX9_isFrame_1 : decode cX9_isFrame 1 = .ok (.ifCond .lt 14, 3) := by decide +kernel
theorem dX9_isFrame_4 : decode cX9_isFrame 4 = .ok (.iload_n 0, 1) := by decide +kernel
theorem dX9_isFrame_5 : decode cX9_isFrame 5 = .ok (.sipush 600, 3) := by decide +kernel
theorem dX9_isFrame_8 : decode cX9_isFrame 8 = .ok (.if_icmp .ge 7, 3) := by decide +kernel
theorem dX9_isFrame_11 : decode cX9_isFrame 11 = .ok (.iconst 1, 1) := by decide +kernel
theorem dX9_isFrame_12 : decode cX9_isFrame 12 = .ok (.goto 4, 3) := by decide +kernel
theorem dX9_isFrame_15 : decode cX9_isFrame 15 = .ok (.iconst 0, 1) := by decide +kernel
theorem dX9_isFrame_16 : decode cX9_isFrame 16 = .ok (.ireturn, 1) := by decide +kernel
theorem dX9_isSilence_0 : decode cX9_isSilence 0 = .ok (.iload_n 0, 1) := by decide +kernel
theorem dX9_isSilence_1 : decode cX9_isSilence 1 = .ok (.iconst 1, 1) := by decide +kernel
theorem dX9_isSilence_2 : decode cX9_isSilence 2 = .ok (.if_icmp .lt 26, 3) := by decide +kernel
theorem dX9_isSilence_5 : decode cX9_isSilence 5 = .ok (.iload_n 0, 1) := by decide +kernel
theorem dX9_isSilence_6 : decode cX9_isSilence 6 = .ok (.sipush 999, 3) := by decide +kernel
theorem dX9_isSilence_9 : decode cX9_isSilence 9 = .ok (.if_icmp .gt 19, 3) := by decide +kernel
theorem dX9_isSilence_12 : decode cX9_isSilence 12 = .ok (.iload_n 1, 1) := by decide +kernel
theorem dX9_isSilence_13 : decode cX9_isSilence 13 = .ok (.iconst 1, 1) := by decide +kernel
theorem dX9_isSilence_14 : decode cX9_isSilence 14 = .ok (.if_icmp .lt 14, 3) := by decide +kernel
theorem dX9_isSilence_17 : decode cX9_isSilence 17 = .ok (.iload_n 1, 1) := by decide +kernel
theorem dX9_isSilence_18 : decode cX9_isSilence 18 = .ok (.sipush 600, 3) := by decide +kernel
theorem dX9_isSilence_21 : decode cX9_isSilence 21 = .ok (.if_icmp .gt 7, 3) := by decide +kernel
theorem dX9_isSilence_24 : decode cX9_isSilence 24 = .ok (.iconst 1, 1) := by decide +kernel
theorem dX9_isSilence_25 : decode cX9_isSilence 25 = .ok (.goto 4, 3) := by decide +kernel
theorem dX9_isSilence_28 : decode cX9_isSilence 28 = .ok (.iconst 0, 1) := by decide +kernel
theorem dX9_isSilence_29 : decode cX9_isSilence 29 = .ok (.ireturn, 1) := by decide +kernel
theorem dX9_done_0 : decode cX9_done 0 = .ok (.iload_n 1, 1) := by decide +kernel
theorem dX9_done_1 : decode cX9_done 1 = .ok (.ifCond .lt 7, 3) := by decide +kernel
theorem dX9_done_4 : decode cX9_done 4 = .ok (.aload_n 0, 1) := by decide +kernel
theorem dX9_done_5 : decode cX9_done 5 = .ok (.invokevirtual 120, 3) := by decide +kernel
theorem dX9_done_8 : decode cX9_done 8 = .ok (.iload_n 1, 1) := by decide +kernel
theorem dX9_done_9 : decode cX9_done 9 = .ok (.ireturn, 1) := by decide +kernel
theorem dX9_noteChange_0 : decode cX9_noteChange 0 = .ok (.aload_n 0, 1) := by decide +kernel
theorem dX9_noteChange_1 : decode cX9_noteChange 1 = .ok (.getfield 34, 3) := by decide +kernel
theorem dX9_noteChange_4 : decode cX9_noteChange 4 = .ok (.iconst 1, 1) := by decide +kernel
theorem dX9_noteChange_5 : decode cX9_noteChange 5 = .ok (.putfield 304, 3) := by decide +kernel
theorem dX9_noteChange_8 : decode cX9_noteChange 8 = .ok (.aload_n 0, 1) := by decide +kernel
theorem dX9_noteChange_9 : decode cX9_noteChange 9 = .ok (.getfield 25, 3) := by decide +kernel
theorem dX9_noteChange_12 : decode cX9_noteChange 12 = .ok (.aload_n 0, 1) := by decide +kernel
theorem dX9_noteChange_13 : decode cX9_noteChange 13 = .ok (.getfield 12, 3) := by decide +kernel
theorem dX9_noteChange_16 : decode cX9_noteChange 16 = .ok (.invokevirtual 392, 3) := by decide +kernel
theorem dX9_noteChange_19 : decode cX9_noteChange 19 = .ok (.return_, 1) := by decide +kernel
theorem dX9_heard_0 : decode cX9_heard 0 = .ok (.aload_n 0, 1) := by decide +kernel
theorem dX9_heard_1 : decode cX9_heard 1 = .ok (.getfield 34, 3) := by decide +kernel
theorem dX9_heard_4 : decode cX9_heard 4 = .ok (.invokevirtual 278, 3) := by decide +kernel
theorem dX9_heard_7 : decode cX9_heard 7 = .ok (.aload_n 0, 1) := by decide +kernel
theorem dX9_heard_8 : decode cX9_heard 8 = .ok (.getfield 34, 3) := by decide +kernel
theorem dX9_heard_11 : decode cX9_heard 11 = .ok (.areturn, 1) := by decide +kernel
theorem dX9_measureNow_0 : decode cX9_measureNow 0 = .ok (.aload_n 0, 1) := by decide +kernel
theorem dX9_measureNow_1 : decode cX9_measureNow 1 = .ok (.getfield 34, 3) := by decide +kernel
theorem dX9_measureNow_4 : decode cX9_measureNow 4 = .ok (.invokevirtual 278, 3) := by decide +kernel
theorem dX9_measureNow_7 : decode cX9_measureNow 7 = .ok (.aload_n 0, 1) := by decide +kernel
theorem dX9_measureNow_8 : decode cX9_measureNow 8 = .ok (.getfield 43, 3) := by decide +kernel
theorem dX9_measureNow_11 : decode cX9_measureNow 11 = .ok (.aload_n 0, 1) := by decide +kernel
theorem dX9_measureNow_12 : decode cX9_measureNow 12 = .ok (.getfield 12, 3) := by decide +kernel
theorem dX9_measureNow_15 : decode cX9_measureNow 15 = .ok (.getfield 275, 3) := by decide +kernel
theorem dX9_measureNow_18 : decode cX9_measureNow 18 = .ok (.iconst 0, 1) := by decide +kernel
theorem dX9_measureNow_19 : decode cX9_measureNow 19 = .ok (.iaload, 1) := by decide +kernel
theorem dX9_measureNow_20 : decode cX9_measureNow 20 = .ok (.invokevirtual 395, 3) := by decide +kernel
theorem dX9_measureNow_23 : decode cX9_measureNow 23 = .ok (.return_, 1) := by decide +kernel
theorem dX9_greatestMaster_0 : decode cX9_greatestMaster 0 = .ok (.iload_n 1, 1) := by decide +kernel
theorem dX9_greatestMaster_1 : decode cX9_greatestMaster 1 = .ok (.iconst 1, 1) := by decide +kernel
theorem dX9_greatestMaster_2 : decode cX9_greatestMaster 2 = .ok (.if_icmp .lt 10, 3) := by decide +kernel
theorem dX9_greatestMaster_5 : decode cX9_greatestMaster 5 = .ok (.iload_n 1, 1) := by decide +kernel
theorem dX9_greatestMaster_6 : decode cX9_greatestMaster 6 = .ok (.sipush 999, 3) := by decide +kernel
theorem dX9_greatestMaster_9 : decode cX9_greatestMaster 9 = .ok (.if_icmp .le 6, 3) := by decide +kernel
theorem dX9_greatestMaster_12 : decode cX9_greatestMaster 12 = .ok (.bipush (-2), 2) := by decide +kernel
theorem dX9_greatestMaster_14 : decode cX9_greatestMaster 14 = .ok (.ireturn, 1) := by decide +kernel
theorem dX9_greatestMaster_15 : decode cX9_greatestMaster 15 = .ok (.aload_n 0, 1) := by decide +kernel
theorem dX9_greatestMaster_16 : decode cX9_greatestMaster 16 = .ok (.getfield 34, 3) := by decide +kernel
theorem dX9_greatestMaster_19 : decode cX9_greatestMaster 19 = .ok (.invokevirtual 278, 3) := by decide +kernel
theorem dX9_greatestMaster_22 : decode cX9_greatestMaster 22 = .ok (.sipush 400, 3) := by decide +kernel
theorem dX9_greatestMaster_25 : decode cX9_greatestMaster 25 = .ok (.istore_n 2, 1) := by decide +kernel
theorem dX9_greatestMaster_26 : decode cX9_greatestMaster 26 = .ok (.iload_n 2, 1) := by decide +kernel
theorem dX9_greatestMaster_27 : decode cX9_greatestMaster 27 = .ok (.iconst 1, 1) := by decide +kernel
theorem dX9_greatestMaster_28 : decode cX9_greatestMaster 28 = .ok (.if_icmp .lt 32, 3) := by decide +kernel
theorem dX9_greatestMaster_31 : decode cX9_greatestMaster 31 = .ok (.aload_n 0, 1) := by decide +kernel
theorem dX9_greatestMaster_32 : decode cX9_greatestMaster 32 = .ok (.getfield 43, 3) := by decide +kernel
theorem dX9_greatestMaster_35 : decode cX9_greatestMaster 35 = .ok (.iload_n 2, 1) := by decide +kernel
theorem dX9_greatestMaster_36 : decode cX9_greatestMaster 36 = .ok (.invokevirtual 395, 3) := by decide +kernel
theorem dX9_greatestMaster_39 : decode cX9_greatestMaster 39 = .ok (.aload_n 0, 1) := by decide +kernel
theorem dX9_greatestMaster_40 : decode cX9_greatestMaster 40 = .ok (.getfield 43, 3) := by decide +kernel
theorem dX9_greatestMaster_43 : decode cX9_greatestMaster 43 = .ok (.getfield 269, 3) := by decide +kernel
theorem dX9_greatestMaster_46 : decode cX9_greatestMaster 46 = .ok (.iload_n 1, 1) := by decide +kernel
theorem dX9_greatestMaster_47 : decode cX9_greatestMaster 47 = .ok (.iload_n 1, 1) := by decide +kernel
theorem dX9_greatestMaster_48 : decode cX9_greatestMaster 48 = .ok (.imul, 1) := by decide +kernel
theorem dX9_greatestMaster_49 : decode cX9_greatestMaster 49 = .ok (.if_icmp .gt 5, 3) := by decide +kernel
theorem dX9_greatestMaster_52 : decode cX9_greatestMaster 52 = .ok (.iload_n 2, 1) := by decide +kernel
theorem dX9_greatestMaster_53 : decode cX9_greatestMaster 53 = .ok (.ireturn, 1) := by decide +kernel
theorem dX9_greatestMaster_54 : decode cX9_greatestMaster 54 = .ok (.iinc 2 (-1), 3) := by decide +kernel
theorem dX9_greatestMaster_57 : decode cX9_greatestMaster 57 = .ok (.goto (-31), 3) := by decide +kernel
theorem dX9_greatestMaster_60 : decode cX9_greatestMaster 60 = .ok (.bipush (-6), 2) := by decide +kernel
theorem dX9_greatestMaster_62 : decode cX9_greatestMaster 62 = .ok (.ireturn, 1) := by decide +kernel
theorem dX9_afterCut_0 : decode cX9_afterCut 0 = .ok (.iload_n 1, 1) := by decide +kernel
theorem dX9_afterCut_1 : decode cX9_afterCut 1 = .ok (.tableswitch 61 0 2 #[27, 38, 50], 27) := by decide +kernel
theorem dX9_afterCut_28 : decode cX9_afterCut 28 = .ok (.aload_n 0, 1) := by decide +kernel
theorem dX9_afterCut_29 : decode cX9_afterCut 29 = .ok (.getfield 12, 3) := by decide +kernel
theorem dX9_afterCut_32 : decode cX9_afterCut 32 = .ok (.getfield 80, 3) := by decide +kernel
theorem dX9_afterCut_35 : decode cX9_afterCut 35 = .ok (.invokevirtual 237, 3) := by decide +kernel
theorem dX9_afterCut_38 : decode cX9_afterCut 38 = .ok (.ireturn, 1) := by decide +kernel
theorem dX9_afterCut_39 : decode cX9_afterCut 39 = .ok (.aload_n 0, 1) := by decide +kernel
theorem dX9_afterCut_40 : decode cX9_afterCut 40 = .ok (.invokevirtual 250, 3) := by decide +kernel
theorem dX9_afterCut_43 : decode cX9_afterCut 43 = .ok (.aload_n 0, 1) := by decide +kernel
theorem dX9_afterCut_44 : decode cX9_afterCut 44 = .ok (.getfield 43, 3) := by decide +kernel
theorem dX9_afterCut_47 : decode cX9_afterCut 47 = .ok (.getfield 269, 3) := by decide +kernel
theorem dX9_afterCut_50 : decode cX9_afterCut 50 = .ok (.ireturn, 1) := by decide +kernel
theorem dX9_afterCut_51 : decode cX9_afterCut 51 = .ok (.aload_n 0, 1) := by decide +kernel
theorem dX9_afterCut_52 : decode cX9_afterCut 52 = .ok (.getfield 12, 3) := by decide +kernel
theorem dX9_afterCut_55 : decode cX9_afterCut 55 = .ok (.getfield 80, 3) := by decide +kernel
theorem dX9_afterCut_58 : decode cX9_afterCut 58 = .ok (.getfield 385, 3) := by decide +kernel
theorem dX9_afterCut_61 : decode cX9_afterCut 61 = .ok (.ireturn, 1) := by decide +kernel
theorem dX9_afterCut_62 : decode cX9_afterCut 62 = .ok (.aload_n 0, 1) := by decide +kernel
theorem dX9_afterCut_63 : decode cX9_afterCut 63 = .ok (.getfield 12, 3) := by decide +kernel
theorem dX9_afterCut_66 : decode cX9_afterCut 66 = .ok (.getfield 199, 3) := by decide +kernel
theorem dX9_afterCut_69 : decode cX9_afterCut 69 = .ok (.getfield 349, 3) := by decide +kernel
theorem dX9_afterCut_72 : decode cX9_afterCut 72 = .ok (.ireturn, 1) := by decide +kernel
theorem dX9_carryOut_0 : decode cX9_carryOut 0 = .ok (.iload_n 1, 1) := by decide +kernel
theorem dX9_carryOut_1 : decode cX9_carryOut 1 = .ok (.lookupswitch 139 #[(100, 71), (105, 61), (109, 96), (115, 83), (120, 51)], 51) := by decide +kernel
theorem dX9_carryOut_52 : decode cX9_carryOut 52 = .ok (.aload_n 0, 1) := by decide +kernel
theorem dX9_carryOut_53 : decode cX9_carryOut 53 = .ok (.getfield 12, 3) := by decide +kernel
theorem dX9_carryOut_56 : decode cX9_carryOut 56 = .ok (.iload_n 2, 1) := by decide +kernel
theorem dX9_carryOut_57 : decode cX9_carryOut 57 = .ok (.iload_n 3, 1) := by decide +kernel
theorem dX9_carryOut_58 : decode cX9_carryOut 58 = .ok (.invokevirtual 193, 3) := by decide +kernel
theorem dX9_carryOut_61 : decode cX9_carryOut 61 = .ok (.ireturn, 1) := by decide +kernel
theorem dX9_carryOut_62 : decode cX9_carryOut 62 = .ok (.aload_n 0, 1) := by decide +kernel
theorem dX9_carryOut_63 : decode cX9_carryOut 63 = .ok (.getfield 12, 3) := by decide +kernel
theorem dX9_carryOut_66 : decode cX9_carryOut 66 = .ok (.iload_n 2, 1) := by decide +kernel
theorem dX9_carryOut_67 : decode cX9_carryOut 67 = .ok (.iload_n 3, 1) := by decide +kernel
theorem dX9_carryOut_68 : decode cX9_carryOut 68 = .ok (.invokevirtual 196, 3) := by decide +kernel
theorem dX9_carryOut_71 : decode cX9_carryOut 71 = .ok (.ireturn, 1) := by decide +kernel
theorem dX9_carryOut_72 : decode cX9_carryOut 72 = .ok (.aload_n 0, 1) := by decide +kernel
theorem dX9_carryOut_73 : decode cX9_carryOut 73 = .ok (.getfield 12, 3) := by decide +kernel
theorem dX9_carryOut_76 : decode cX9_carryOut 76 = .ok (.getfield 80, 3) := by decide +kernel
theorem dX9_carryOut_79 : decode cX9_carryOut 79 = .ok (.iload_n 2, 1) := by decide +kernel
theorem dX9_carryOut_80 : decode cX9_carryOut 80 = .ok (.invokevirtual 170, 3) := by decide +kernel
theorem dX9_carryOut_83 : decode cX9_carryOut 83 = .ok (.ireturn, 1) := by decide +kernel
theorem dX9_carryOut_84 : decode cX9_carryOut 84 = .ok (.aload_n 0, 1) := by decide +kernel
theorem dX9_carryOut_85 : decode cX9_carryOut 85 = .ok (.getfield 12, 3) := by decide +kernel
theorem dX9_carryOut_88 : decode cX9_carryOut 88 = .ok (.getfield 80, 3) := by decide +kernel
theorem dX9_carryOut_91 : decode cX9_carryOut 91 = .ok (.iload_n 2, 1) := by decide +kernel
theorem dX9_carryOut_92 : decode cX9_carryOut 92 = .ok (.iload_n 3, 1) := by decide +kernel
theorem dX9_carryOut_93 : decode cX9_carryOut 93 = .ok (.invokevirtual 167, 3) := by decide +kernel
theorem dX9_carryOut_96 : decode cX9_carryOut 96 = .ok (.ireturn, 1) := by decide +kernel
theorem dX9_carryOut_97 : decode cX9_carryOut 97 = .ok (.aload_n 0, 1) := by decide +kernel
theorem dX9_carryOut_98 : decode cX9_carryOut 98 = .ok (.getfield 12, 3) := by decide +kernel
theorem dX9_carryOut_101 : decode cX9_carryOut 101 = .ok (.getfield 80, 3) := by decide +kernel
theorem dX9_carryOut_104 : decode cX9_carryOut 104 = .ok (.iload_n 2, 1) := by decide +kernel
theorem dX9_carryOut_105 : decode cX9_carryOut 105 = .ok (.invokevirtual 145, 3) := by decide +kernel
theorem dX9_carryOut_108 : decode cX9_carryOut 108 = .ok (.ifCond .eq 30, 3) := by decide +kernel
theorem dX9_carryOut_111 : decode cX9_carryOut 111 = .ok (.aload_n 0, 1) := by decide +kernel
theorem dX9_carryOut_112 : decode cX9_carryOut 112 = .ok (.getfield 12, 3) := by decide +kernel
theorem dX9_carryOut_115 : decode cX9_carryOut 115 = .ok (.getfield 80, 3) := by decide +kernel
theorem dX9_carryOut_118 : decode cX9_carryOut 118 = .ok (.iload_n 2, 1) := by decide +kernel
theorem dX9_carryOut_119 : decode cX9_carryOut 119 = .ok (.aload_n 0, 1) := by decide +kernel
theorem dX9_carryOut_120 : decode cX9_carryOut 120 = .ok (.getfield 12, 3) := by decide +kernel
theorem dX9_carryOut_123 : decode cX9_carryOut 123 = .ok (.getfield 80, 3) := by decide +kernel
theorem dX9_carryOut_126 : decode cX9_carryOut 126 = .ok (.iload_n 2, 1) := by decide +kernel
theorem dX9_carryOut_127 : decode cX9_carryOut 127 = .ok (.iconst 0, 1) := by decide +kernel
theorem dX9_carryOut_128 : decode cX9_carryOut 128 = .ok (.invokevirtual 154, 3) := by decide +kernel
theorem dX9_carryOut_131 : decode cX9_carryOut 131 = .ok (.iload_n 3, 1) := by decide +kernel
theorem dX9_carryOut_132 : decode cX9_carryOut 132 = .ok (.invokevirtual 161, 3) := by decide +kernel
theorem dX9_carryOut_135 : decode cX9_carryOut 135 = .ok (.goto 4, 3) := by decide +kernel
theorem dX9_carryOut_138 : decode cX9_carryOut 138 = .ok (.iconst (-1), 1) := by decide +kernel
theorem dX9_carryOut_139 : decode cX9_carryOut 139 = .ok (.ireturn, 1) := by decide +kernel
theorem dX9_carryOut_140 : decode cX9_carryOut 140 = .ok (.aload_n 0, 1) := by decide +kernel
theorem dX9_carryOut_141 : decode cX9_carryOut 141 = .ok (.getfield 12, 3) := by decide +kernel
theorem dX9_carryOut_144 : decode cX9_carryOut 144 = .ok (.getfield 199, 3) := by decide +kernel
theorem dX9_carryOut_147 : decode cX9_carryOut 147 = .ok (.iload_n 2, 1) := by decide +kernel
theorem dX9_carryOut_148 : decode cX9_carryOut 148 = .ok (.iload_n 3, 1) := by decide +kernel
theorem dX9_carryOut_149 : decode cX9_carryOut 149 = .ok (.invokevirtual 203, 3) := by decide +kernel
theorem dX9_carryOut_152 : decode cX9_carryOut 152 = .ok (.ireturn, 1) := by decide +kernel
theorem dX10_init_0 : decode cX10_init 0 = .ok (.aload_n 0, 1) := by decide +kernel
theorem dX10_init_1 : decode cX10_init 1 = .ok (.invokespecial 1, 3) := by decide +kernel
theorem dX10_init_4 : decode cX10_init 4 = .ok (.aload_n 0, 1) := by decide +kernel
theorem dX10_init_5 : decode cX10_init 5 = .ok (.sipush 470, 3) := by decide +kernel
theorem dX10_init_8 : decode cX10_init 8 = .ok (.newarray .int, 2) := by decide +kernel
theorem dX10_init_10 : decode cX10_init 10 = .ok (.putfield 9, 3) := by decide +kernel
theorem dX10_init_13 : decode cX10_init 13 = .ok (.aload_n 0, 1) := by decide +kernel
theorem dX10_init_14 : decode cX10_init 14 = .ok (.sipush 470, 3) := by decide +kernel
theorem dX10_init_17 : decode cX10_init 17 = .ok (.newarray .int, 2) := by decide +kernel
theorem dX10_init_19 : decode cX10_init 19 = .ok (.putfield 13, 3) := by decide +kernel
theorem dX10_init_22 : decode cX10_init 22 = .ok (.aload_n 0, 1) := by decide +kernel
theorem dX10_init_23 : decode cX10_init 23 = .ok (.sipush 470, 3) := by decide +kernel
theorem dX10_init_26 : decode cX10_init 26 = .ok (.newarray .int, 2) := by decide +kernel
theorem dX10_init_28 : decode cX10_init 28 = .ok (.putfield 16, 3) := by decide +kernel
theorem dX10_init_31 : decode cX10_init 31 = .ok (.aload_n 0, 1) := by decide +kernel
theorem dX10_init_32 : decode cX10_init 32 = .ok (.sipush 4700, 3) := by decide +kernel
theorem dX10_init_35 : decode cX10_init 35 = .ok (.newarray .int, 2) := by decide +kernel
theorem dX10_init_37 : decode cX10_init 37 = .ok (.putfield 19, 3) := by decide +kernel
theorem dX10_init_40 : decode cX10_init 40 = .ok (.aload_n 0, 1) := by decide +kernel
theorem dX10_init_41 : decode cX10_init 41 = .ok (.sipush 4700, 3) := by decide +kernel
theorem dX10_init_44 : decode cX10_init 44 = .ok (.newarray .int, 2) := by decide +kernel
theorem dX10_init_46 : decode cX10_init 46 = .ok (.putfield 22, 3) := by decide +kernel
theorem dX10_init_49 : decode cX10_init 49 = .ok (.aload_n 0, 1) := by decide +kernel
theorem dX10_init_50 : decode cX10_init 50 = .ok (.sipush 470, 3) := by decide +kernel
theorem dX10_init_53 : decode cX10_init 53 = .ok (.newarray .int, 2) := by decide +kernel
theorem dX10_init_55 : decode cX10_init 55 = .ok (.putfield 25, 3) := by decide +kernel
theorem dX10_init_58 : decode cX10_init 58 = .ok (.aload_n 0, 1) := by decide +kernel
theorem dX10_init_59 : decode cX10_init 59 = .ok (.sipush 470, 3) := by decide +kernel
theorem dX10_init_62 : decode cX10_init 62 = .ok (.newarray .int, 2) := by decide +kernel
theorem dX10_init_64 : decode cX10_init 64 = .ok (.putfield 28, 3) := by decide +kernel
theorem dX10_init_67 : decode cX10_init 67 = .ok (.aload_n 0, 1) := by decide +kernel
theorem dX10_init_68 : decode cX10_init 68 = .ok (.sipush 1200, 3) := by decide +kernel
theorem dX10_init_71 : decode cX10_init 71 = .ok (.newarray .int, 2) := by decide +kernel
theorem dX10_init_73 : decode cX10_init 73 = .ok (.putfield 31, 3) := by decide +kernel
theorem dX10_init_76 : decode cX10_init 76 = .ok (.aload_n 0, 1) := by decide +kernel
theorem dX10_init_77 : decode cX10_init 77 = .ok (.sipush 2400, 3) := by decide +kernel
theorem dX10_init_80 : decode cX10_init 80 = .ok (.newarray .int, 2) := by decide +kernel
theorem dX10_init_82 : decode cX10_init 82 = .ok (.putfield 34, 3) := by decide +kernel
theorem dX10_init_85 : decode cX10_init 85 = .ok (.aload_n 0, 1) := by decide +kernel
theorem dX10_init_86 : decode cX10_init 86 = .ok (.sipush 2400, 3) := by decide +kernel
theorem dX10_init_89 : decode cX10_init 89 = .ok (.newarray .int, 2) := by decide +kernel
theorem dX10_init_91 : decode cX10_init 91 = .ok (.putfield 37, 3) := by decide +kernel
theorem dX10_init_94 : decode cX10_init 94 = .ok (.aload_n 0, 1) := by decide +kernel
theorem dX10_init_95 : decode cX10_init 95 = .ok (.sipush 2400, 3) := by decide +kernel
theorem dX10_init_98 : decode cX10_init 98 = .ok (.newarray .int, 2) := by decide +kernel
theorem dX10_init_100 : decode cX10_init 100 = .ok (.putfield 40, 3) := by decide +kernel
theorem dX10_init_103 : decode cX10_init 103 = .ok (.aload_n 0, 1) := by decide +kernel
theorem dX10_init_104 : decode cX10_init 104 = .ok (.sipush 600, 3) := by decide +kernel
theorem dX10_init_107 : decode cX10_init 107 = .ok (.newarray .int, 2) := by decide +kernel
theorem dX10_init_109 : decode cX10_init 109 = .ok (.putfield 43, 3) := by decide +kernel
theorem dX10_init_112 : decode cX10_init 112 = .ok (.aload_n 0, 1) := by decide +kernel
theorem dX10_init_113 : decode cX10_init 113 = .ok (.sipush 2400, 3) := by decide +kernel
theorem dX10_init_116 : decode cX10_init 116 = .ok (.newarray .boolean, 2) := by decide +kernel
theorem dX10_init_118 : decode cX10_init 118 = .ok (.putfield 46, 3) := by decide +kernel
theorem dX10_init_121 : decode cX10_init 121 = .ok (.aload_n 0, 1) := by decide +kernel
theorem dX10_init_122 : decode cX10_init 122 = .ok (.bipush 8, 2) := by decide +kernel
theorem dX10_init_124 : decode cX10_init 124 = .ok (.newarray .int, 2) := by decide +kernel
theorem dX10_init_126 : decode cX10_init 126 = .ok (.putfield 50, 3) := by decide +kernel
theorem dX10_init_129 : decode cX10_init 129 = .ok (.aload_n 0, 1) := by decide +kernel
theorem dX10_init_130 : decode cX10_init 130 = .ok (.sipush 1200, 3) := by decide +kernel
theorem dX10_init_133 : decode cX10_init 133 = .ok (.newarray .int, 2) := by decide +kernel
theorem dX10_init_135 : decode cX10_init 135 = .ok (.putfield 53, 3) := by decide +kernel
theorem dX10_init_138 : decode cX10_init 138 = .ok (.aload_n 0, 1) := by decide +kernel
theorem dX10_init_139 : decode cX10_init 139 = .ok (.sipush 160, 3) := by decide +kernel
theorem dX10_init_142 : decode cX10_init 142 = .ok (.newarray .int, 2) := by decide +kernel
theorem dX10_init_144 : decode cX10_init 144 = .ok (.putfield 56, 3) := by decide +kernel
theorem dX10_init_147 : decode cX10_init 147 = .ok (.aload_n 0, 1) := by decide +kernel
theorem dX10_init_148 : decode cX10_init 148 = .ok (.bipush 60, 2) := by decide +kernel
theorem dX10_init_150 : decode cX10_init 150 = .ok (.newarray .int, 2) := by decide +kernel
theorem dX10_init_152 : decode cX10_init 152 = .ok (.putfield 59, 3) := by decide +kernel
theorem dX10_init_155 : decode cX10_init 155 = .ok (.aload_n 0, 1) := by decide +kernel
theorem dX10_init_156 : decode cX10_init 156 = .ok (.iconst (-1), 1) := by decide +kernel
theorem dX10_init_157 : decode cX10_init 157 = .ok (.putfield 62, 3) := by decide +kernel
theorem dX10_init_160 : decode cX10_init 160 = .ok (.aload_n 0, 1) := by decide +kernel
theorem dX10_init_161 : decode cX10_init 161 = .ok (.bipush 60, 2) := by decide +kernel
theorem dX10_init_163 : decode cX10_init 163 = .ok (.newarray .int, 2) := by decide +kernel
theorem dX10_init_165 : decode cX10_init 165 = .ok (.putfield 66, 3) := by decide +kernel
theorem dX10_init_168 : decode cX10_init 168 = .ok (.aload_n 0, 1) := by decide +kernel
theorem dX10_init_169 : decode cX10_init 169 = .ok (.bipush 60, 2) := by decide +kernel
theorem dX10_init_171 : decode cX10_init 171 = .ok (.newarray .int, 2) := by decide +kernel
theorem dX10_init_173 : decode cX10_init 173 = .ok (.putfield 69, 3) := by decide +kernel
theorem dX10_init_176 : decode cX10_init 176 = .ok (.aload_n 0, 1) := by decide +kernel
theorem dX10_init_177 : decode cX10_init 177 = .ok (.bipush 60, 2) := by decide +kernel
theorem dX10_init_179 : decode cX10_init 179 = .ok (.newarray .int, 2) := by decide +kernel
theorem dX10_init_181 : decode cX10_init 181 = .ok (.putfield 72, 3) := by decide +kernel
theorem dX10_init_184 : decode cX10_init 184 = .ok (.aload_n 0, 1) := by decide +kernel
theorem dX10_init_185 : decode cX10_init 185 = .ok (.bipush 100, 2) := by decide +kernel
theorem dX10_init_187 : decode cX10_init 187 = .ok (.newarray .int, 2) := by decide +kernel
theorem dX10_init_189 : decode cX10_init 189 = .ok (.putfield 75, 3) := by decide +kernel
theorem dX10_init_192 : decode cX10_init 192 = .ok (.iconst 0, 1) := by decide +kernel
theorem dX10_init_193 : decode cX10_init 193 = .ok (.istore_n 1, 1) := by decide +kernel
theorem dX10_init_194 : decode cX10_init 194 = .ok (.iload_n 1, 1) := by decide +kernel
theorem dX10_init_195 : decode cX10_init 195 = .ok (.iconst 4, 1) := by decide +kernel
theorem dX10_init_196 : decode cX10_init 196 = .ok (.if_icmp .ge 65, 3) := by decide +kernel
theorem dX10_init_199 : decode cX10_init 199 = .ok (.sipush 410, 3) := by decide +kernel
theorem dX10_init_202 : decode cX10_init 202 = .ok (.bipush 7, 2) := by decide +kernel
theorem dX10_init_204 : decode cX10_init 204 = .ok (.iload_n 1, 1) := by decide +kernel
theorem dX10_init_205 : decode cX10_init 205 = .ok (.imul, 1) := by decide +kernel
theorem dX10_init_206 : decode cX10_init 206 = .ok (.iadd, 1) := by decide +kernel
theorem dX10_init_207 : decode cX10_init 207 = .ok (.istore_n 2, 1) := by decide +kernel
theorem dX10_init_208 : decode cX10_init 208 = .ok (.aload_n 0, 1) := by decide +kernel
theorem dX10_init_209 : decode cX10_init 209 = .ok (.getfield 9, 3) := by decide +kernel
theorem dX10_init_212 : decode cX10_init 212 = .ok (.iload_n 2, 1) := by decide +kernel
theorem dX10_init_213 : decode cX10_init 213 = .ok (.bipush 100, 2) := by decide +kernel
theorem dX10_init_215 : decode cX10_init 215 = .ok (.iastore, 1) := by decide +kernel
theorem dX10_init_216 : decode cX10_init 216 = .ok (.aload_n 0, 1) := by decide +kernel
theorem dX10_init_217 : decode cX10_init 217 = .ok (.getfield 9, 3) := by decide +kernel
theorem dX10_init_220 : decode cX10_init 220 = .ok (.iload_n 2, 1) := by decide +kernel
theorem dX10_init_221 : decode cX10_init 221 = .ok (.iconst 3, 1) := by decide +kernel
theorem dX10_init_222 : decode cX10_init 222 = .ok (.iadd, 1) := by decide +kernel
theorem dX10_init_223 : decode cX10_init 223 = .ok (.iconst (-1), 1) := by decide +kernel
theorem dX10_init_224 : decode cX10_init 224 = .ok (.iastore, 1) := by decide +kernel
theorem dX10_init_225 : decode cX10_init 225 = .ok (.aload_n 0, 1) := by decide +kernel
theorem dX10_init_226 : decode cX10_init 226 = .ok (.getfield 9, 3) := by decide +kernel
theorem dX10_init_229 : decode cX10_init 229 = .ok (.iload_n 2, 1) := by decide +kernel
theorem dX10_init_230 : decode cX10_init 230 = .ok (.iconst 4, 1) := by decide +kernel
theorem dX10_init_231 : decode cX10_init 231 = .ok (.iadd, 1) := by decide +kernel
theorem dX10_init_232 : decode cX10_init 232 = .ok (.bipush 100, 2) := by decide +kernel
theorem dX10_init_234 : decode cX10_init 234 = .ok (.iastore, 1) := by decide +kernel
theorem dX10_init_235 : decode cX10_init 235 = .ok (.aload_n 0, 1) := by decide +kernel
theorem dX10_init_236 : decode cX10_init 236 = .ok (.getfield 9, 3) := by decide +kernel
theorem dX10_init_239 : decode cX10_init 239 = .ok (.iload_n 2, 1) := by decide +kernel
theorem dX10_init_240 : decode cX10_init 240 = .ok (.iconst 5, 1) := by decide +kernel
theorem dX10_init_241 : decode cX10_init 241 = .ok (.iadd, 1) := by decide +kernel
theorem dX10_init_242 : decode cX10_init 242 = .ok (.bipush 50, 2) := by decide +kernel
theorem dX10_init_244 : decode cX10_init 244 = .ok (.iastore, 1) := by decide +kernel
theorem dX10_init_245 : decode cX10_init 245 = .ok (.aload_n 0, 1) := by decide +kernel
theorem dX10_init_246 : decode cX10_init 246 = .ok (.getfield 9, 3) := by decide +kernel
theorem dX10_init_249 : decode cX10_init 249 = .ok (.iload_n 2, 1) := by decide +kernel
theorem dX10_init_250 : decode cX10_init 250 = .ok (.bipush 6, 2) := by decide +kernel
theorem dX10_init_252 : decode cX10_init 252 = .ok (.iadd, 1) := by decide +kernel
theorem dX10_init_253 : decode cX10_init 253 = .ok (.iconst 5, 1) := by decide +kernel
theorem dX10_init_254 : decode cX10_init 254 = .ok (.iastore, 1) := by decide +kernel
theorem dX10_init_255 : decode cX10_init 255 = .ok (.iinc 1 1, 3) := by decide +kernel
theorem dX10_init_258 : decode cX10_init 258 = .ok (.goto (-64), 3) := by decide +kernel
theorem dX10_init_261 : decode cX10_init 261 = .ok (.aload_n 0, 1) := by decide +kernel
theorem dX10_init_262 : decode cX10_init 262 = .ok (.getfield 9, 3) := by decide +kernel
theorem dX10_init_265 : decode cX10_init 265 = .ok (.sipush 465, 3) := by decide +kernel
theorem dX10_init_268 : decode cX10_init 268 = .ok (.bipush 100, 2) := by decide +kernel
theorem dX10_init_270 : decode cX10_init 270 = .ok (.iastore, 1) := by decide +kernel
theorem dX10_init_271 : decode cX10_init 271 = .ok (.aload_n 0, 1) := by decide +kernel
theorem dX10_init_272 : decode cX10_init 272 = .ok (.getfield 9, 3) := by decide +kernel
theorem dX10_init_275 : decode cX10_init 275 = .ok (.sipush 466, 3) := by decide +kernel
theorem dX10_init_278 : decode cX10_init 278 = .ok (.bipush 10, 2) := by decide +kernel
theorem dX10_init_280 : decode cX10_init 280 = .ok (.iastore, 1) := by decide +kernel
theorem dX10_init_281 : decode cX10_init 281 = .ok (.aload_n 0, 1) := by decide +kernel
theorem dX10_init_282 : decode cX10_init 282 = .ok (.getfield 9, 3) := by decide +kernel
theorem dX10_init_285 : decode cX10_init 285 = .ok (.sipush 467, 3) := by decide +kernel
theorem dX10_init_288 : decode cX10_init 288 = .ok (.bipush 10, 2) := by decide +kernel
theorem dX10_init_290 : decode cX10_init 290 = .ok (.iastore, 1) := by decide +kernel
theorem dX10_init_291 : decode cX10_init 291 = .ok (.aload_n 0, 1) := by decide +kernel
theorem dX10_init_292 : decode cX10_init 292 = .ok (.getfield 9, 3) := by decide +kernel
theorem dX10_init_295 : decode cX10_init 295 = .ok (.sipush 468, 3) := by decide +kernel
theorem dX10_init_298 : decode cX10_init 298 = .ok (.bipush 25, 2) := by decide +kernel
theorem dX10_init_300 : decode cX10_init 300 = .ok (.iastore, 1) := by decide +kernel
theorem dX10_init_301 : decode cX10_init 301 = .ok (.return_, 1) := by decide +kernel
theorem dX10_isIn_0 : decode cX10_isIn 0 = .ok (.iload_n 0, 1) := by decide +kernel
theorem dX10_isIn_1 : decode cX10_isIn 1 = .ok (.iload_n 1, 1) := by decide +kernel
theorem dX10_isIn_2 : decode cX10_isIn 2 = .ok (.if_icmp .lt 12, 3) := by decide +kernel
theorem dX10_isIn_5 : decode cX10_isIn 5 = .ok (.iload_n 0, 1) := by decide +kernel
theorem dX10_isIn_6 : decode cX10_isIn 6 = .ok (.iload_n 2, 1) := by decide +kernel
theorem dX10_isIn_7 : decode cX10_isIn 7 = .ok (.if_icmp .gt 7, 3) := by decide +kernel
theorem dX10_isIn_10 : decode cX10_isIn 10 = .ok (.iconst 1, 1) := by decide +kernel
theorem dX10_isIn_11 : decode cX10_isIn 11 = .ok (.goto 4, 3) := by decide +kernel
theorem dX10_isIn_14 : decode cX10_isIn 14 = .ok (.iconst 0, 1) := by decide +kernel
theorem dX10_isIn_15 : decode cX10_isIn 15 = .ok (.ireturn, 1) := by decide +kernel
theorem dX10_copies_0 : decode cX10_copies 0 = .ok (.iconst 0, 1) := by decide +kernel
theorem dX10_copies_1 : decode cX10_copies 1 = .ok (.istore_n 2, 1) := by decide +kernel
theorem dX10_copies_2 : decode cX10_copies 2 = .ok (.iload_n 2, 1) := by decide +kernel
theorem dX10_copies_3 : decode cX10_copies 3 = .ok (.sipush 470, 3) := by decide +kernel
theorem dX10_copies_6 : decode cX10_copies 6 = .ok (.if_icmp .ge 15, 3) := by decide +kernel
theorem dX10_copies_9 : decode cX10_copies 9 = .ok (.aload_n 1, 1) := by decide +kernel
theorem dX10_copies_10 : decode cX10_copies 10 = .ok (.iload_n 2, 1) := by decide +kernel
theorem dX10_copies_11 : decode cX10_copies 11 = .ok (.aload_n 0, 1) := by decide +kernel
theorem dX10_copies_12 : decode cX10_copies 12 = .ok (.iload_n 2, 1) := by decide +kernel
theorem dX10_copies_13 : decode cX10_copies 13 = .ok (.iaload, 1) := by decide +kernel
theorem dX10_copies_14 : decode cX10_copies 14 = .ok (.iastore, 1) := by decide +kernel
theorem dX10_copies_15 : decode cX10_copies 15 = .ok (.iinc 2 1, 3) := by decide +kernel
theorem dX10_copies_18 : decode cX10_copies 18 = .ok (.goto (-16), 3) := by decide +kernel
theorem dX10_copies_21 : decode cX10_copies 21 = .ok (.return_, 1) := by decide +kernel
theorem dX10_begins_0 : decode cX10_begins 0 = .ok (.aload_n 0, 1) := by decide +kernel
theorem dX10_begins_1 : decode cX10_begins 1 = .ok (.getfield 9, 3) := by decide +kernel
theorem dX10_begins_4 : decode cX10_begins 4 = .ok (.aload_n 0, 1) := by decide +kernel
theorem dX10_begins_5 : decode cX10_begins 5 = .ok (.getfield 13, 3) := by decide +kernel
theorem dX10_begins_8 : decode cX10_begins 8 = .ok (.invokestatic 78, 3) := by decide +kernel
theorem dX10_begins_11 : decode cX10_begins 11 = .ok (.return_, 1) := by decide +kernel
theorem dX10_pushes_0 : decode cX10_pushes 0 = .ok (.iload_n 2, 1) := by decide +kernel
theorem dX10_pushes_1 : decode cX10_pushes 1 = .ok (.bipush 10, 2) := by decide +kernel
theorem dX10_pushes_3 : decode cX10_pushes 3 = .ok (.if_icmp .ne 32, 3) := by decide +kernel
theorem dX10_pushes_6 : decode cX10_pushes 6 = .ok (.iconst 0, 1) := by decide +kernel
theorem dX10_pushes_7 : decode cX10_pushes 7 = .ok (.istore 4, 2) := by decide +kernel
theorem dX10_pushes_9 : decode cX10_pushes 9 = .ok (.iload 4, 2) := by decide +kernel
theorem dX10_pushes_11 : decode cX10_pushes 11 = .ok (.sipush 4230, 3) := by decide +kernel
theorem dX10_pushes_14 : decode cX10_pushes 14 = .ok (.if_icmp .ge 21, 3) := by decide +kernel
theorem dX10_pushes_17 : decode cX10_pushes 17 = .ok (.aload_n 1, 1) := by decide +kernel
theorem dX10_pushes_18 : decode cX10_pushes 18 = .ok (.iload 4, 2) := by decide +kernel
theorem dX10_pushes_20 : decode cX10_pushes 20 = .ok (.aload_n 1, 1) := by decide +kernel
theorem dX10_pushes_21 : decode cX10_pushes 21 = .ok (.iload 4, 2) := by decide +kernel
theorem dX10_pushes_23 : decode cX10_pushes 23 = .ok (.sipush 470, 3) := by decide +kernel
theorem dX10_pushes_26 : decode cX10_pushes 26 = .ok (.iadd, 1) := by decide +kernel
theorem dX10_pushes_27 : decode cX10_pushes 27 = .ok (.iaload, 1) := by decide +kernel
theorem dX10_pushes_28 : decode cX10_pushes 28 = .ok (.iastore, 1) := by decide +kernel
theorem dX10_pushes_29 : decode cX10_pushes 29 = .ok (.iinc 4 1, 3) := by decide +kernel
theorem dX10_pushes_32 : decode cX10_pushes 32 = .ok (.goto (-23), 3) := by decide +kernel
theorem dX10_pushes_35 : decode cX10_pushes 35 = .ok (.iload_n 2, 1) := by decide +kernel
theorem dX10_pushes_36 : decode cX10_pushes 36 = .ok (.bipush 10, 2) := by decide +kernel
theorem dX10_pushes_38 : decode cX10_pushes 38 = .ok (.if_icmp .ne 8, 3) := by decide +kernel
theorem dX10_pushes_41 : decode cX10_pushes 41 = .ok (.bipush 9, 2) := by decide +kernel
theorem dX10_pushes_43 : decode cX10_pushes 43 = .ok (.goto 4, 3) := by decide +kernel
theorem dX10_pushes_46 : decode cX10_pushes 46 = .ok (.iload_n 2, 1) := by decide +kernel
theorem dX10_pushes_47 : decode cX10_pushes 47 = .ok (.istore 4, 2) := by decide +kernel
theorem dX10_pushes_49 : decode cX10_pushes 49 = .ok (.iconst 0, 1) := by decide +kernel
theorem dX10_pushes_50 : decode cX10_pushes 50 = .ok (.istore 5, 2) := by decide +kernel
theorem dX10_pushes_52 : decode cX10_pushes 52 = .ok (.iload 5, 2) := by decide +kernel
theorem dX10_pushes_54 : decode cX10_pushes 54 = .ok (.sipush 470, 3) := by decide +kernel
theorem dX10_pushes_57 : decode cX10_pushes 57 = .ok (.if_icmp .ge 24, 3) := by decide +kernel
theorem dX10_pushes_60 : decode cX10_pushes 60 = .ok (.aload_n 1, 1) := by decide +kernel
theorem dX10_pushes_61 : decode cX10_pushes 61 = .ok (.iload 4, 2) := by decide +kernel
theorem dX10_pushes_63 : decode cX10_pushes 63 = .ok (.sipush 470, 3) := by decide +kernel
theorem dX10_pushes_66 : decode cX10_pushes 66 = .ok (.imul, 1) := by decide +kernel
theorem dX10_pushes_67 : decode cX10_pushes 67 = .ok (.iload 5, 2) := by decide +kernel
theorem dX10_pushes_69 : decode cX10_pushes 69 = .ok (.iadd, 1) := by decide +kernel
theorem dX10_pushes_70 : decode cX10_pushes 70 = .ok (.aload_n 3, 1) := by decide +kernel
theorem dX10_pushes_71 : decode cX10_pushes 71 = .ok (.iload 5, 2) := by decide +kernel
theorem dX10_pushes_73 : decode cX10_pushes 73 = .ok (.iaload, 1) := by decide +kernel
theorem dX10_pushes_74 : decode cX10_pushes 74 = .ok (.iastore, 1) := by decide +kernel
theorem dX10_pushes_75 : decode cX10_pushes 75 = .ok (.iinc 5 1, 3) := by decide +kernel
theorem dX10_pushes_78 : decode cX10_pushes 78 = .ok (.goto (-26), 3) := by decide +kernel
theorem dX10_pushes_81 : decode cX10_pushes 81 = .ok (.return_, 1) := by decide +kernel
theorem dX10_steps_0 : decode cX10_steps 0 = .ok (.aload_n 0, 1) := by decide +kernel
theorem dX10_steps_1 : decode cX10_steps 1 = .ok (.aload_n 0, 1) := by decide +kernel
theorem dX10_steps_2 : decode cX10_steps 2 = .ok (.getfield 19, 3) := by decide +kernel
theorem dX10_steps_5 : decode cX10_steps 5 = .ok (.aload_n 0, 1) := by decide +kernel
theorem dX10_steps_6 : decode cX10_steps 6 = .ok (.getfield 82, 3) := by decide +kernel
theorem dX10_steps_9 : decode cX10_steps 9 = .ok (.aload_n 1, 1) := by decide +kernel
theorem dX10_steps_10 : decode cX10_steps 10 = .ok (.invokevirtual 85, 3) := by decide +kernel
theorem dX10_steps_13 : decode cX10_steps 13 = .ok (.aload_n 0, 1) := by decide +kernel
theorem dX10_steps_14 : decode cX10_steps 14 = .ok (.aload_n 0, 1) := by decide +kernel
theorem dX10_steps_15 : decode cX10_steps 15 = .ok (.getfield 82, 3) := by decide +kernel
theorem dX10_steps_18 : decode cX10_steps 18 = .ok (.bipush 10, 2) := by decide +kernel
theorem dX10_steps_20 : decode cX10_steps 20 = .ok (.if_icmp .ne 8, 3) := by decide +kernel
theorem dX10_steps_23 : decode cX10_steps 23 = .ok (.bipush 10, 2) := by decide +kernel
theorem dX10_steps_25 : decode cX10_steps 25 = .ok (.goto 9, 3) := by decide +kernel
theorem dX10_steps_28 : decode cX10_steps 28 = .ok (.aload_n 0, 1) := by decide +kernel
theorem dX10_steps_29 : decode cX10_steps 29 = .ok (.getfield 82, 3) := by decide +kernel
theorem dX10_steps_32 : decode cX10_steps 32 = .ok (.iconst 1, 1) := by decide +kernel
theorem dX10_steps_33 : decode cX10_steps 33 = .ok (.iadd, 1) := by decide +kernel
theorem dX10_steps_34 : decode cX10_steps 34 = .ok (.putfield 82, 3) := by decide +kernel
theorem dX10_steps_37 : decode cX10_steps 37 = .ok (.return_, 1) := by decide +kernel
theorem dX10_ends_0 : decode cX10_ends 0 = .ok (.aload_n 0, 1) := by decide +kernel
theorem dX10_ends_1 : decode cX10_ends 1 = .ok (.iconst 0, 1) := by decide +kernel
theorem dX10_ends_2 : decode cX10_ends 2 = .ok (.putfield 89, 3) := by decide +kernel
theorem dX10_ends_5 : decode cX10_ends 5 = .ok (.aload_n 0, 1) := by decide +kernel
theorem dX10_ends_6 : decode cX10_ends 6 = .ok (.getfield 92, 3) := by decide +kernel
theorem dX10_ends_9 : decode cX10_ends 9 = .ok (.ifCond .eq 34, 3) := by decide +kernel
theorem dX10_ends_12 : decode cX10_ends 12 = .ok (.aload_n 0, 1) := by decide +kernel
theorem dX10_ends_13 : decode cX10_ends 13 = .ok (.getfield 96, 3) := by decide +kernel
theorem dX10_ends_16 : decode cX10_ends 16 = .ok (.ifCond .ne 14, 3) := by decide +kernel
theorem dX10_ends_19 : decode cX10_ends 19 = .ok (.aload_n 0, 1) := by decide +kernel
theorem dX10_ends_20 : decode cX10_ends 20 = .ok (.getfield 13, 3) := by decide +kernel
theorem dX10_ends_23 : decode cX10_ends 23 = .ok (.aload_n 0, 1) := by decide +kernel
theorem dX10_ends_24 : decode cX10_ends 24 = .ok (.getfield 25, 3) := by decide +kernel
theorem dX10_ends_27 : decode cX10_ends 27 = .ok (.invokestatic 78, 3) := by decide +kernel
theorem dX10_ends_30 : decode cX10_ends 30 = .ok (.aload_n 0, 1) := by decide +kernel
theorem dX10_ends_31 : decode cX10_ends 31 = .ok (.dup, 1) := by decide +kernel
theorem dX10_ends_32 : decode cX10_ends 32 = .ok (.getfield 96, 3) := by decide +kernel
theorem dX10_ends_35 : decode cX10_ends 35 = .ok (.iconst 1, 1) := by decide +kernel
theorem dX10_ends_36 : decode cX10_ends 36 = .ok (.iadd, 1) := by decide +kernel
theorem dX10_ends_37 : decode cX10_ends 37 = .ok (.putfield 96, 3) := by decide +kernel
theorem dX10_ends_40 : decode cX10_ends 40 = .ok (.goto 11, 3) := by decide +kernel
theorem dX10_ends_43 : decode cX10_ends 43 = .ok (.aload_n 0, 1) := by decide +kernel
theorem dX10_ends_44 : decode cX10_ends 44 = .ok (.aload_n 0, 1) := by decide +kernel
theorem dX10_ends_45 : decode cX10_ends 45 = .ok (.getfield 13, 3) := by decide +kernel
theorem dX10_ends_48 : decode cX10_ends 48 = .ok (.invokevirtual 99, 3) := by decide +kernel
theorem dX10_ends_51 : decode cX10_ends 51 = .ok (.iload_n 1, 1) := by decide +kernel
theorem dX10_ends_52 : decode cX10_ends 52 = .ok (.ireturn, 1) := by decide +kernel
theorem dX10_isSource_0 : decode cX10_isSource 0 = .ok (.iload_n 1, 1) := by decide +kernel
theorem dX10_isSource_1 : decode cX10_isSource 1 = .ok (.iconst 0, 1) := by decide +kernel
theorem dX10_isSource_2 : decode cX10_isSource 2 = .ok (.aload_n 0, 1) := by decide +kernel
theorem dX10_isSource_3 : decode cX10_isSource 3 = .ok (.getfield 9, 3) := by decide +kernel
theorem dX10_isSource_6 : decode cX10_isSource 6 = .ok (.iconst 0, 1) := by decide +kernel
theorem dX10_isSource_7 : decode cX10_isSource 7 = .ok (.iaload, 1) := by decide +kernel
theorem dX10_isSource_8 : decode cX10_isSource 8 = .ok (.iconst 1, 1) := by decide +kernel
theorem dX10_isSource_9 : decode cX10_isSource 9 = .ok (.isub, 1) := by decide +kernel
theorem dX10_isSource_10 : decode cX10_isSource 10 = .ok (.invokestatic 103, 3) := by decide +kernel
theorem dX10_isSource_13 : decode cX10_isSource 13 = .ok (.ireturn, 1) := by decide +kernel
theorem dX10_sourceOf_0 : decode cX10_sourceOf 0 = .ok (.aload_n 0, 1) := by decide +kernel
theorem dX10_sourceOf_1 : decode cX10_sourceOf 1 = .ok (.getfield 9, 3) := by decide +kernel
theorem dX10_sourceOf_4 : decode cX10_sourceOf 4 = .ok (.iconst 1, 1) := by decide +kernel
theorem dX10_sourceOf_5 : decode cX10_sourceOf 5 = .ok (.iconst 4, 1) := by decide +kernel
theorem dX10_sourceOf_6 : decode cX10_sourceOf 6 = .ok (.iload_n 1, 1) := by decide +kernel
theorem dX10_sourceOf_7 : decode cX10_sourceOf 7 = .ok (.imul, 1) := by decide +kernel
theorem dX10_sourceOf_8 : decode cX10_sourceOf 8 = .ok (.iadd, 1) := by decide +kernel
theorem dX10_sourceOf_9 : decode cX10_sourceOf 9 = .ok (.iload_n 2, 1) := by decide +kernel
theorem dX10_sourceOf_10 : decode cX10_sourceOf 10 = .ok (.iadd, 1) := by decide +kernel
theorem dX10_sourceOf_11 : decode cX10_sourceOf 11 = .ok (.iaload, 1) := by decide +kernel
theorem dX10_sourceOf_12 : decode cX10_sourceOf 12 = .ok (.ireturn, 1) := by decide +kernel
theorem dX10_addSource_0 : decode cX10_addSource 0 = .ok (.iload_n 1, 1) := by decide +kernel
theorem dX10_addSource_1 : decode cX10_addSource 1 = .ok (.iconst 0, 1) := by decide +kernel
theorem dX10_addSource_2 : decode cX10_addSource 2 = .ok (.iconst 3, 1) := by decide +kernel
theorem dX10_addSource_3 : decode cX10_addSource 3 = .ok (.invokestatic 103, 3) := by decide +kernel
theorem dX10_addSource_6 : decode cX10_addSource 6 = .ok (.ifCond .eq 29, 3) := by decide +kernel
theorem dX10_addSource_9 : decode cX10_addSource 9 = .ok (.iload_n 2, 1) := by decide +kernel
theorem dX10_addSource_10 : decode cX10_addSource 10 = .ok (.iconst 1, 1) := by decide +kernel
theorem dX10_addSource_11 : decode cX10_addSource 11 = .ok (.sipush 200, 3) := by decide +kernel
theorem dX10_addSource_14 : decode cX10_addSource 14 = .ok (.invokestatic 103, 3) := by decide +kernel
theorem dX10_addSource_17 : decode cX10_addSource 17 = .ok (.ifCond .eq 18, 3) := by decide +kernel
theorem dX10_addSource_20 : decode cX10_addSource 20 = .ok (.iload_n 3, 1) := by decide +kernel
theorem dX10_addSource_21 : decode cX10_addSource 21 = .ok (.iconst 0, 1) := by decide +kernel
theorem dX10_addSource_22 : decode cX10_addSource 22 = .ok (.sipush 999, 3) := by decide +kernel
theorem dX10_addSource_25 : decode cX10_addSource 25 = .ok (.invokestatic 103, 3) := by decide +kernel
theorem dX10_addSource_28 : decode cX10_addSource 28 = .ok (.ifCond .eq 7, 3) := by decide +kernel
theorem dX10_addSource_31 : decode cX10_addSource 31 = .ok (.iconst 1, 1) := by decide +kernel
theorem dX10_addSource_32 : decode cX10_addSource 32 = .ok (.goto 4, 3) := by decide +kernel
theorem dX10_addSource_35 : decode cX10_addSource 35 = .ok (.iconst 0, 1) := by decide +kernel
theorem dX10_addSource_36 : decode cX10_addSource 36 = .ok (.istore 5, 2) := by decide +kernel
theorem dX10_addSource_38 : decode cX10_addSource 38 = .ok (.iload 5, 2) := by decide +kernel
theorem dX10_addSource_40 : decode cX10_addSource 40 = .ok (.ifCond .eq 46, 3) := by decide +kernel
theorem dX10_addSource_43 : decode cX10_addSource 43 = .ok (.iload_n 1, 1) := by decide +kernel
theorem dX10_addSource_44 : decode cX10_addSource 44 = .ok (.ifCond .ne 11, 3) := by decide +kernel
theorem dX10_addSource_47 : decode cX10_addSource 47 = .ok (.iload 4, 2) := by decide +kernel
theorem dX10_addSource_49 : decode cX10_addSource 49 = .ok (.ifCond .ne 37, 3) := by decide +kernel
theorem dX10_addSource_52 : decode cX10_addSource 52 = .ok (.goto 37, 3) := by decide +kernel
theorem dX10_addSource_55 : decode cX10_addSource 55 = .ok (.iload_n 1, 1) := by decide +kernel
theorem dX10_addSource_56 : decode cX10_addSource 56 = .ok (.iconst 2, 1) := by decide +kernel
theorem dX10_addSource_57 : decode cX10_addSource 57 = .ok (.if_icmp .ne 17, 3) := by decide +kernel
theorem dX10_addSource_60 : decode cX10_addSource 60 = .ok (.iload 4, 2) := by decide +kernel
theorem dX10_addSource_62 : decode cX10_addSource 62 = .ok (.iconst 1, 1) := by decide +kernel
theorem dX10_addSource_63 : decode cX10_addSource 63 = .ok (.bipush 99, 2) := by decide +kernel
theorem dX10_addSource_65 : decode cX10_addSource 65 = .ok (.invokestatic 103, 3) := by decide +kernel
theorem dX10_addSource_68 : decode cX10_addSource 68 = .ok (.ifCond .eq 18, 3) := by decide +kernel
theorem dX10_addSource_71 : decode cX10_addSource 71 = .ok (.goto 18, 3) := by decide +kernel
theorem dX10_addSource_74 : decode cX10_addSource 74 = .ok (.iload 4, 2) := by decide +kernel
theorem dX10_addSource_76 : decode cX10_addSource 76 = .ok (.iconst 0, 1) := by decide +kernel
theorem dX10_addSource_77 : decode cX10_addSource 77 = .ok (.sipush 999, 3) := by decide +kernel
theorem dX10_addSource_80 : decode cX10_addSource 80 = .ok (.invokestatic 103, 3) := by decide +kernel
theorem dX10_addSource_83 : decode cX10_addSource 83 = .ok (.ifCond .ne 6, 3) := by decide +kernel
theorem dX10_addSource_86 : decode cX10_addSource 86 = .ok (.bipush (-2), 2) := by decide +kernel
theorem dX10_addSource_88 : decode cX10_addSource 88 = .ok (.ireturn, 1) := by decide +kernel
theorem dX10_addSource_89 : decode cX10_addSource 89 = .ok (.aload_n 0, 1) := by decide +kernel
theorem dX10_addSource_90 : decode cX10_addSource 90 = .ok (.getfield 9, 3) := by decide +kernel
theorem dX10_addSource_93 : decode cX10_addSource 93 = .ok (.iconst 0, 1) := by decide +kernel
theorem dX10_addSource_94 : decode cX10_addSource 94 = .ok (.iaload, 1) := by decide +kernel
theorem dX10_addSource_95 : decode cX10_addSource 95 = .ok (.bipush 6, 2) := by decide +kernel
theorem dX10_addSource_97 : decode cX10_addSource 97 = .ok (.if_icmp .ne 6, 3) := by decide +kernel
theorem dX10_addSource_100 : decode cX10_addSource 100 = .ok (.bipush (-3), 2) := by decide +kernel
theorem dX10_addSource_102 : decode cX10_addSource 102 = .ok (.ireturn, 1) := by decide +kernel
theorem dX10_addSource_103 : decode cX10_addSource 103 = .ok (.aload_n 0, 1) := by decide +kernel
theorem dX10_addSource_104 : decode cX10_addSource 104 = .ok (.invokevirtual 107, 3) := by decide +kernel
theorem dX10_addSource_107 : decode cX10_addSource 107 = .ok (.aload_n 0, 1) := by decide +kernel
theorem dX10_addSource_108 : decode cX10_addSource 108 = .ok (.getfield 9, 3) := by decide +kernel
theorem dX10_addSource_111 : decode cX10_addSource 111 = .ok (.iconst 0, 1) := by decide +kernel
theorem dX10_addSource_112 : decode cX10_addSource 112 = .ok (.iaload, 1) := by decide +kernel
theorem dX10_addSource_113 : decode cX10_addSource 113 = .ok (.istore 6, 2) := by decide +kernel
theorem dX10_addSource_115 : decode cX10_addSource 115 = .ok (.aload_n 0, 1) := by decide +kernel
theorem dX10_addSource_116 : decode cX10_addSource 116 = .ok (.getfield 9, 3) := by decide +kernel
theorem dX10_addSource_119 : decode cX10_addSource 119 = .ok (.iconst 0, 1) := by decide +kernel
theorem dX10_addSource_120 : decode cX10_addSource 120 = .ok (.dup2, 1) := by decide +kernel
theorem dX10_addSource_121 : decode cX10_addSource 121 = .ok (.iaload, 1) := by decide +kernel
theorem dX10_addSource_122 : decode cX10_addSource 122 = .ok (.iconst 1, 1) := by decide +kernel
theorem dX10_addSource_123 : decode cX10_addSource 123 = .ok (.iadd, 1) := by decide +kernel
theorem dX10_addSource_124 : decode cX10_addSource 124 = .ok (.iastore, 1) := by decide +kernel
theorem dX10_addSource_125 : decode cX10_addSource 125 = .ok (.aload_n 0, 1) := by decide +kernel
theorem dX10_addSource_126 : decode cX10_addSource 126 = .ok (.getfield 9, 3) := by decide +kernel
theorem dX10_addSource_129 : decode cX10_addSource 129 = .ok (.iconst 1, 1) := by decide +kernel
theorem dX10_addSource_130 : decode cX10_addSource 130 = .ok (.iconst 4, 1) := by decide +kernel
theorem dX10_addSource_131 : decode cX10_addSource 131 = .ok (.iload 6, 2) := by decide +kernel
theorem dX10_addSource_133 : decode cX10_addSource 133 = .ok (.imul, 1) := by decide +kernel
theorem dX10_addSource_134 : decode cX10_addSource 134 = .ok (.iadd, 1) := by decide +kernel
theorem dX10_addSource_135 : decode cX10_addSource 135 = .ok (.iload_n 1, 1) := by decide +kernel
theorem dX10_addSource_136 : decode cX10_addSource 136 = .ok (.iastore, 1) := by decide +kernel
theorem dX10_addSource_137 : decode cX10_addSource 137 = .ok (.aload_n 0, 1) := by decide +kernel
theorem dX10_addSource_138 : decode cX10_addSource 138 = .ok (.getfield 9, 3) := by decide +kernel
theorem dX10_addSource_141 : decode cX10_addSource 141 = .ok (.iconst 1, 1) := by decide +kernel
theorem dX10_addSource_142 : decode cX10_addSource 142 = .ok (.iconst 4, 1) := by decide +kernel
theorem dX10_addSource_143 : decode cX10_addSource 143 = .ok (.iload 6, 2) := by decide +kernel
theorem dX10_addSource_145 : decode cX10_addSource 145 = .ok (.imul, 1) := by decide +kernel
theorem dX10_addSource_146 : decode cX10_addSource 146 = .ok (.iadd, 1) := by decide +kernel
theorem dX10_addSource_147 : decode cX10_addSource 147 = .ok (.iconst 1, 1) := by decide +kernel
theorem dX10_addSource_148 : decode cX10_addSource 148 = .ok (.iadd, 1) := by decide +kernel
theorem dX10_addSource_149 : decode cX10_addSource 149 = .ok (.iload_n 2, 1) := by decide +kernel
theorem dX10_addSource_150 : decode cX10_addSource 150 = .ok (.iastore, 1) := by decide +kernel
theorem dX10_addSource_151 : decode cX10_addSource 151 = .ok (.aload_n 0, 1) := by decide +kernel
theorem dX10_addSource_152 : decode cX10_addSource 152 = .ok (.getfield 9, 3) := by decide +kernel
theorem dX10_addSource_155 : decode cX10_addSource 155 = .ok (.iconst 1, 1) := by decide +kernel
theorem dX10_addSource_156 : decode cX10_addSource 156 = .ok (.iconst 4, 1) := by decide +kernel
theorem dX10_addSource_157 : decode cX10_addSource 157 = .ok (.iload 6, 2) := by decide +kernel
theorem dX10_addSource_159 : decode cX10_addSource 159 = .ok (.imul, 1) := by decide +kernel
theorem dX10_addSource_160 : decode cX10_addSource 160 = .ok (.iadd, 1) := by decide +kernel
theorem dX10_addSource_161 : decode cX10_addSource 161 = .ok (.iconst 2, 1) := by decide +kernel
theorem dX10_addSource_162 : decode cX10_addSource 162 = .ok (.iadd, 1) := by decide +kernel
theorem dX10_addSource_163 : decode cX10_addSource 163 = .ok (.iload_n 3, 1) := by decide +kernel
theorem dX10_addSource_164 : decode cX10_addSource 164 = .ok (.iastore, 1) := by decide +kernel
theorem dX10_addSource_165 : decode cX10_addSource 165 = .ok (.aload_n 0, 1) := by decide +kernel
theorem dX10_addSource_166 : decode cX10_addSource 166 = .ok (.getfield 9, 3) := by decide +kernel
theorem dX10_addSource_169 : decode cX10_addSource 169 = .ok (.iconst 1, 1) := by decide +kernel
theorem dX10_addSource_170 : decode cX10_addSource 170 = .ok (.iconst 4, 1) := by decide +kernel
theorem dX10_addSource_171 : decode cX10_addSource 171 = .ok (.iload 6, 2) := by decide +kernel
theorem dX10_addSource_173 : decode cX10_addSource 173 = .ok (.imul, 1) := by decide +kernel
theorem dX10_addSource_174 : decode cX10_addSource 174 = .ok (.iadd, 1) := by decide +kernel
theorem dX10_addSource_175 : decode cX10_addSource 175 = .ok (.iconst 3, 1) := by decide +kernel
theorem dX10_addSource_176 : decode cX10_addSource 176 = .ok (.iadd, 1) := by decide +kernel
theorem dX10_addSource_177 : decode cX10_addSource 177 = .ok (.iload 4, 2) := by decide +kernel
theorem dX10_addSource_179 : decode cX10_addSource 179 = .ok (.iastore, 1) := by decide +kernel
theorem dX10_addSource_180 : decode cX10_addSource 180 = .ok (.aload_n 0, 1) := by decide +kernel
theorem dX10_addSource_181 : decode cX10_addSource 181 = .ok (.iload 6, 2) := by decide +kernel
theorem dX10_addSource_183 : decode cX10_addSource 183 = .ok (.invokevirtual 110, 3) := by decide +kernel
theorem dX10_addSource_186 : decode cX10_addSource 186 = .ok (.ireturn, 1) := by decide +kernel
theorem dX10_laysWaves_0 : decode cX10_laysWaves 0 = .ok (.iconst 0, 1) := by decide +kernel
theorem dX10_laysWaves_1 : decode cX10_laysWaves 1 = .ok (.istore_n 1, 1) := by decide +kernel
theorem dX10_laysWaves_2 : decode cX10_laysWaves 2 = .ok (.iload_n 1, 1) := by decide +kernel
theorem dX10_laysWaves_3 : decode cX10_laysWaves 3 = .ok (.aload_n 0, 1) := by decide +kernel
theorem dX10_laysWaves_4 : decode cX10_laysWaves 4 = .ok (.getfield 9, 3) := by decide +kernel
theorem dX10_laysWaves_7 : decode cX10_laysWaves 7 = .ok (.iconst 0, 1) := by decide +kernel
theorem dX10_laysWaves_8 : decode cX10_laysWaves 8 = .ok (.iaload, 1) := by decide +kernel
theorem dX10_laysWaves_9 : decode cX10_laysWaves 9 = .ok (.if_icmp .ge 146, 3) := by decide +kernel
theorem dX10_laysWaves_12 : decode cX10_laysWaves 12 = .ok (.aload_n 0, 1) := by decide +kernel
theorem dX10_laysWaves_13 : decode cX10_laysWaves 13 = .ok (.iload_n 1, 1) := by decide +kernel
theorem dX10_laysWaves_14 : decode cX10_laysWaves 14 = .ok (.iconst 0, 1) := by decide +kernel
theorem dX10_laysWaves_15 : decode cX10_laysWaves 15 = .ok (.invokevirtual 114, 3) := by decide +kernel
theorem dX10_laysWaves_18 : decode cX10_laysWaves 18 = .ok (.istore_n 2, 1) := by decide +kernel
theorem dX10_laysWaves_19 : decode cX10_laysWaves 19 = .ok (.aload_n 0, 1) := by decide +kernel
theorem dX10_laysWaves_20 : decode cX10_laysWaves 20 = .ok (.iload_n 1, 1) := by decide +kernel
theorem dX10_laysWaves_21 : decode cX10_laysWaves 21 = .ok (.iconst 1, 1) := by decide +kernel
theorem dX10_laysWaves_22 : decode cX10_laysWaves 22 = .ok (.invokevirtual 114, 3) := by decide +kernel
theorem dX10_laysWaves_25 : decode cX10_laysWaves 25 = .ok (.istore_n 3, 1) := by decide +kernel
theorem dX10_laysWaves_26 : decode cX10_laysWaves 26 = .ok (.aload_n 0, 1) := by decide +kernel
theorem dX10_laysWaves_27 : decode cX10_laysWaves 27 = .ok (.iload_n 1, 1) := by decide +kernel
theorem dX10_laysWaves_28 : decode cX10_laysWaves 28 = .ok (.iconst 2, 1) := by decide +kernel
theorem dX10_laysWaves_29 : decode cX10_laysWaves 29 = .ok (.invokevirtual 114, 3) := by decide +kernel
theorem dX10_laysWaves_32 : decode cX10_laysWaves 32 = .ok (.istore 4, 2) := by decide +kernel
theorem dX10_laysWaves_34 : decode cX10_laysWaves 34 = .ok (.aload_n 0, 1) := by decide +kernel
theorem dX10_laysWaves_35 : decode cX10_laysWaves 35 = .ok (.iload_n 1, 1) := by decide +kernel
theorem dX10_laysWaves_36 : decode cX10_laysWaves 36 = .ok (.iconst 3, 1) := by decide +kernel
theorem dX10_laysWaves_37 : decode cX10_laysWaves 37 = .ok (.invokevirtual 114, 3) := by decide +kernel
theorem dX10_laysWaves_40 : decode cX10_laysWaves 40 = .ok (.istore 5, 2) := by decide +kernel
theorem dX10_laysWaves_42 : decode cX10_laysWaves 42 = .ok (.iload 5, 2) := by decide +kernel
theorem dX10_laysWaves_44 : decode cX10_laysWaves 44 = .ok (.istore 6, 2) := by decide +kernel
theorem dX10_laysWaves_46 : decode cX10_laysWaves 46 = .ok (.iconst 0, 1) := by decide +kernel
theorem dX10_laysWaves_47 : decode cX10_laysWaves 47 = .ok (.istore 7, 2) := by decide +kernel
theorem dX10_laysWaves_49 : decode cX10_laysWaves 49 = .ok (.iload 7, 2) := by decide +kernel
theorem dX10_laysWaves_51 : decode cX10_laysWaves 51 = .ok (.iload_n 3, 1) := by decide +kernel
theorem dX10_laysWaves_52 : decode cX10_laysWaves 52 = .ok (.if_icmp .ge 97, 3) := by decide +kernel
theorem dX10_laysWaves_55 : decode cX10_laysWaves 55 = .ok (.iload 6, 2) := by decide +kernel
theorem dX10_laysWaves_57 : decode cX10_laysWaves 57 = .ok (.ldc 118, 2) := by decide +kernel
theorem dX10_laysWaves_59 : decode cX10_laysWaves 59 = .ok (.imul, 1) := by decide +kernel
theorem dX10_laysWaves_60 : decode cX10_laysWaves 60 = .ok (.sipush 12345, 3) := by decide +kernel
theorem dX10_laysWaves_63 : decode cX10_laysWaves 63 = .ok (.iadd, 1) := by decide +kernel
theorem dX10_laysWaves_64 : decode cX10_laysWaves 64 = .ok (.istore 6, 2) := by decide +kernel
theorem dX10_laysWaves_66 : decode cX10_laysWaves 66 = .ok (.aload_n 0, 1) := by decide +kernel
theorem dX10_laysWaves_67 : decode cX10_laysWaves 67 = .ok (.getfield 31, 3) := by decide +kernel
theorem dX10_laysWaves_70 : decode cX10_laysWaves 70 = .ok (.sipush 200, 3) := by decide +kernel
theorem dX10_laysWaves_73 : decode cX10_laysWaves 73 = .ok (.iload_n 1, 1) := by decide +kernel
theorem dX10_laysWaves_74 : decode cX10_laysWaves 74 = .ok (.imul, 1) := by decide +kernel
theorem dX10_laysWaves_75 : decode cX10_laysWaves 75 = .ok (.iload 7, 2) := by decide +kernel
theorem dX10_laysWaves_77 : decode cX10_laysWaves 77 = .ok (.iadd, 1) := by decide +kernel
theorem dX10_laysWaves_78 : decode cX10_laysWaves 78 = .ok (.iload_n 2, 1) := by decide +kernel
theorem dX10_laysWaves_79 : decode cX10_laysWaves 79 = .ok (.ifCond .ne 8, 3) := by decide +kernel
theorem dX10_laysWaves_82 : decode cX10_laysWaves 82 = .ok (.iload 4, 2) := by decide +kernel
theorem dX10_laysWaves_84 : decode cX10_laysWaves 84 = .ok (.goto 58, 3) := by decide +kernel
theorem dX10_laysWaves_87 : decode cX10_laysWaves 87 = .ok (.iload_n 2, 1) := by decide +kernel
theorem dX10_laysWaves_88 : decode cX10_laysWaves 88 = .ok (.iconst 1, 1) := by decide +kernel
theorem dX10_laysWaves_89 : decode cX10_laysWaves 89 = .ok (.if_icmp .ne 19, 3) := by decide +kernel
theorem dX10_laysWaves_92 : decode cX10_laysWaves 92 = .ok (.iload 4, 2) := by decide +kernel
theorem dX10_laysWaves_94 : decode cX10_laysWaves 94 = .ok (.iload 5, 2) := by decide +kernel
theorem dX10_laysWaves_96 : decode cX10_laysWaves 96 = .ok (.iload 4, 2) := by decide +kernel
theorem dX10_laysWaves_98 : decode cX10_laysWaves 98 = .ok (.isub, 1) := by decide +kernel
theorem dX10_laysWaves_99 : decode cX10_laysWaves 99 = .ok (.iload 7, 2) := by decide +kernel
theorem dX10_laysWaves_101 : decode cX10_laysWaves 101 = .ok (.imul, 1) := by decide +kernel
theorem dX10_laysWaves_102 : decode cX10_laysWaves 102 = .ok (.iload_n 3, 1) := by decide +kernel
theorem dX10_laysWaves_103 : decode cX10_laysWaves 103 = .ok (.idiv, 1) := by decide +kernel
theorem dX10_laysWaves_104 : decode cX10_laysWaves 104 = .ok (.iadd, 1) := by decide +kernel
theorem dX10_laysWaves_105 : decode cX10_laysWaves 105 = .ok (.goto 37, 3) := by decide +kernel
theorem dX10_laysWaves_108 : decode cX10_laysWaves 108 = .ok (.iload_n 2, 1) := by decide +kernel
theorem dX10_laysWaves_109 : decode cX10_laysWaves 109 = .ok (.iconst 2, 1) := by decide +kernel
theorem dX10_laysWaves_110 : decode cX10_laysWaves 110 = .ok (.if_icmp .ne 22, 3) := by decide +kernel
theorem dX10_laysWaves_113 : decode cX10_laysWaves 113 = .ok (.iload 7, 2) := by decide +kernel
theorem dX10_laysWaves_115 : decode cX10_laysWaves 115 = .ok (.iload 5, 2) := by decide +kernel
theorem dX10_laysWaves_117 : decode cX10_laysWaves 117 = .ok (.idiv, 1) := by decide +kernel
theorem dX10_laysWaves_118 : decode cX10_laysWaves 118 = .ok (.iconst 2, 1) := by decide +kernel
theorem dX10_laysWaves_119 : decode cX10_laysWaves 119 = .ok (.irem, 1) := by decide +kernel
theorem dX10_laysWaves_120 : decode cX10_laysWaves 120 = .ok (.ifCond .ne 8, 3) := by decide +kernel
theorem dX10_laysWaves_123 : decode cX10_laysWaves 123 = .ok (.iload 4, 2) := by decide +kernel
theorem dX10_laysWaves_125 : decode cX10_laysWaves 125 = .ok (.goto 17, 3) := by decide +kernel
theorem dX10_laysWaves_128 : decode cX10_laysWaves 128 = .ok (.iconst 0, 1) := by decide +kernel
theorem dX10_laysWaves_129 : decode cX10_laysWaves 129 = .ok (.goto 13, 3) := by decide +kernel
theorem dX10_laysWaves_132 : decode cX10_laysWaves 132 = .ok (.iload 6, 2) := by decide +kernel
theorem dX10_laysWaves_134 : decode cX10_laysWaves 134 = .ok (.bipush 16, 2) := by decide +kernel
theorem dX10_laysWaves_136 : decode cX10_laysWaves 136 = .ok (.iushr, 1) := by decide +kernel
theorem dX10_laysWaves_137 : decode cX10_laysWaves 137 = .ok (.iload 4, 2) := by decide +kernel
theorem dX10_laysWaves_139 : decode cX10_laysWaves 139 = .ok (.iconst 1, 1) := by decide +kernel
theorem dX10_laysWaves_140 : decode cX10_laysWaves 140 = .ok (.iadd, 1) := by decide +kernel
theorem dX10_laysWaves_141 : decode cX10_laysWaves 141 = .ok (.irem, 1) := by decide +kernel
theorem dX10_laysWaves_142 : decode cX10_laysWaves 142 = .ok (.iastore, 1) := by decide +kernel
theorem dX10_laysWaves_143 : decode cX10_laysWaves 143 = .ok (.iinc 7 1, 3) := by decide +kernel
theorem dX10_laysWaves_146 : decode cX10_laysWaves 146 = .ok (.goto (-97), 3) := by decide +kernel
theorem dX10_laysWaves_149 : decode cX10_laysWaves 149 = .ok (.iinc 1 1, 3) := by decide +kernel
theorem dX10_laysWaves_152 : decode cX10_laysWaves 152 = .ok (.goto (-150), 3) := by decide +kernel
theorem dX10_laysWaves_155 : decode cX10_laysWaves 155 = .ok (.return_, 1) := by decide +kernel
theorem dX10_source_0 : decode cX10_source 0 = .ok (.aload_n 0, 1) := by decide +kernel
theorem dX10_source_1 : decode cX10_source 1 = .ok (.iload_n 1, 1) := by decide +kernel
theorem dX10_source_2 : decode cX10_source 2 = .ok (.invokevirtual 119, 3) := by decide +kernel
theorem dX10_source_5 : decode cX10_source 5 = .ok (.ifCond .ne 5, 3) := by decide +kernel
theorem dX10_source_8 : decode cX10_source 8 = .ok (.iconst (-1), 1) := by decide +kernel
theorem dX10_source_9 : decode cX10_source 9 = .ok (.ireturn, 1) := by decide +kernel
theorem dX10_source_10 : decode cX10_source 10 = .ok (.iload_n 2, 1) := by decide +kernel
theorem dX10_source_11 : decode cX10_source 11 = .ok (.iconst 0, 1) := by decide +kernel
theorem dX10_source_12 : decode cX10_source 12 = .ok (.iconst 5, 1) := by decide +kernel
theorem dX10_source_13 : decode cX10_source 13 = .ok (.invokestatic 103, 3) := by decide +kernel
theorem dX10_source_16 : decode cX10_source 16 = .ok (.ifCond .ne 6, 3) := by decide +kernel
theorem dX10_source_19 : decode cX10_source 19 = .ok (.bipush (-2), 2) := by decide +kernel
theorem dX10_source_21 : decode cX10_source 21 = .ok (.ireturn, 1) := by decide +kernel
theorem dX10_source_22 : decode cX10_source 22 = .ok (.iload_n 2, 1) := by decide +kernel
theorem dX10_source_23 : decode cX10_source 23 = .ok (.iconst 4, 1) := by decide +kernel
theorem dX10_source_24 : decode cX10_source 24 = .ok (.if_icmp .ge 10, 3) := by decide +kernel
theorem dX10_source_27 : decode cX10_source 27 = .ok (.aload_n 0, 1) := by decide +kernel
theorem dX10_source_28 : decode cX10_source 28 = .ok (.iload_n 1, 1) := by decide +kernel
theorem dX10_source_29 : decode cX10_source 29 = .ok (.iload_n 2, 1) := by decide +kernel
theorem dX10_source_30 : decode cX10_source 30 = .ok (.invokevirtual 114, 3) := by decide +kernel
theorem dX10_source_33 : decode cX10_source 33 = .ok (.ireturn, 1) := by decide +kernel
theorem dX10_source_34 : decode cX10_source 34 = .ok (.aload_n 0, 1) := by decide +kernel
theorem dX10_source_35 : decode cX10_source 35 = .ok (.invokevirtual 123, 3) := by decide +kernel
theorem dX10_source_38 : decode cX10_source 38 = .ok (.iconst 0, 1) := by decide +kernel
theorem dX10_source_39 : decode cX10_source 39 = .ok (.istore_n 3, 1) := by decide +kernel
theorem dX10_source_40 : decode cX10_source 40 = .ok (.iconst 0, 1) := by decide +kernel
theorem dX10_source_41 : decode cX10_source 41 = .ok (.istore 4, 2) := by decide +kernel
theorem dX10_source_43 : decode cX10_source 43 = .ok (.iconst 0, 1) := by decide +kernel
theorem dX10_source_44 : decode cX10_source 44 = .ok (.istore 5, 2) := by decide +kernel
theorem dX10_source_46 : decode cX10_source 46 = .ok (.iload 5, 2) := by decide +kernel
theorem dX10_source_48 : decode cX10_source 48 = .ok (.aload_n 0, 1) := by decide +kernel
theorem dX10_source_49 : decode cX10_source 49 = .ok (.getfield 9, 3) := by decide +kernel
theorem dX10_source_52 : decode cX10_source 52 = .ok (.bipush 25, 2) := by decide +kernel
theorem dX10_source_54 : decode cX10_source 54 = .ok (.iaload, 1) := by decide +kernel
theorem dX10_source_55 : decode cX10_source 55 = .ok (.if_icmp .ge 28, 3) := by decide +kernel
theorem dX10_source_58 : decode cX10_source 58 = .ok (.iload_n 3, 1) := by decide +kernel
theorem dX10_source_59 : decode cX10_source 59 = .ok (.aload_n 0, 1) := by decide +kernel
theorem dX10_source_60 : decode cX10_source 60 = .ok (.iload 5, 2) := by decide +kernel
theorem dX10_source_62 : decode cX10_source 62 = .ok (.iconst 2, 1) := by decide +kernel
theorem dX10_source_63 : decode cX10_source 63 = .ok (.invokevirtual 126, 3) := by decide +kernel
theorem dX10_source_66 : decode cX10_source 66 = .ok (.iload_n 1, 1) := by decide +kernel
theorem dX10_source_67 : decode cX10_source 67 = .ok (.if_icmp .ne 7, 3) := by decide +kernel
theorem dX10_source_70 : decode cX10_source 70 = .ok (.iconst 1, 1) := by decide +kernel
theorem dX10_source_71 : decode cX10_source 71 = .ok (.goto 4, 3) := by decide +kernel
theorem dX10_source_74 : decode cX10_source 74 = .ok (.iconst 0, 1) := by decide +kernel
theorem dX10_source_75 : decode cX10_source 75 = .ok (.iadd, 1) := by decide +kernel
theorem dX10_source_76 : decode cX10_source 76 = .ok (.istore_n 3, 1) := by decide +kernel
theorem dX10_source_77 : decode cX10_source 77 = .ok (.iinc 5 1, 3) := by decide +kernel
theorem dX10_source_80 : decode cX10_source 80 = .ok (.goto (-34), 3) := by decide +kernel
theorem dX10_source_83 : decode cX10_source 83 = .ok (.iconst 0, 1) := by decide +kernel
theorem dX10_source_84 : decode cX10_source 84 = .ok (.istore 5, 2) := by decide +kernel
theorem dX10_source_86 : decode cX10_source 86 = .ok (.iload 5, 2) := by decide +kernel
theorem dX10_source_88 : decode cX10_source 88 = .ok (.aload_n 0, 1) := by decide +kernel
theorem dX10_source_89 : decode cX10_source 89 = .ok (.iload_n 1, 1) := by decide +kernel
theorem dX10_source_90 : decode cX10_source 90 = .ok (.iconst 1, 1) := by decide +kernel
theorem dX10_source_91 : decode cX10_source 91 = .ok (.invokevirtual 114, 3) := by decide +kernel
theorem dX10_source_94 : decode cX10_source 94 = .ok (.if_icmp .ge 47, 3) := by decide +kernel
theorem dX10_source_97 : decode cX10_source 97 = .ok (.aload_n 0, 1) := by decide +kernel
theorem dX10_source_98 : decode cX10_source 98 = .ok (.getfield 31, 3) := by decide +kernel
theorem dX10_source_101 : decode cX10_source 101 = .ok (.sipush 200, 3) := by decide +kernel
theorem dX10_source_104 : decode cX10_source 104 = .ok (.iload_n 1, 1) := by decide +kernel
theorem dX10_source_105 : decode cX10_source 105 = .ok (.imul, 1) := by decide +kernel
theorem dX10_source_106 : decode cX10_source 106 = .ok (.iload 5, 2) := by decide +kernel
theorem dX10_source_108 : decode cX10_source 108 = .ok (.iadd, 1) := by decide +kernel
theorem dX10_source_109 : decode cX10_source 109 = .ok (.iaload, 1) := by decide +kernel
theorem dX10_source_110 : decode cX10_source 110 = .ok (.iload 4, 2) := by decide +kernel
theorem dX10_source_112 : decode cX10_source 112 = .ok (.if_icmp .le 19, 3) := by decide +kernel
theorem dX10_source_115 : decode cX10_source 115 = .ok (.aload_n 0, 1) := by decide +kernel
theorem dX10_source_116 : decode cX10_source 116 = .ok (.getfield 31, 3) := by decide +kernel
theorem dX10_source_119 : decode cX10_source 119 = .ok (.sipush 200, 3) := by decide +kernel
theorem dX10_source_122 : decode cX10_source 122 = .ok (.iload_n 1, 1) := by decide +kernel
theorem dX10_source_123 : decode cX10_source 123 = .ok (.imul, 1) := by decide +kernel
theorem dX10_source_124 : decode cX10_source 124 = .ok (.iload 5, 2) := by decide +kernel
theorem dX10_source_126 : decode cX10_source 126 = .ok (.iadd, 1) := by decide +kernel
theorem dX10_source_127 : decode cX10_source 127 = .ok (.iaload, 1) := by decide +kernel
theorem dX10_source_128 : decode cX10_source 128 = .ok (.goto 5, 3) := by decide +kernel
theorem dX10_source_131 : decode cX10_source 131 = .ok (.iload 4, 2) := by decide +kernel
theorem dX10_source_133 : decode cX10_source 133 = .ok (.istore 4, 2) := by decide +kernel
theorem dX10_source_135 : decode cX10_source 135 = .ok (.iinc 5 1, 3) := by decide +kernel
theorem dX10_source_138 : decode cX10_source 138 = .ok (.goto (-52), 3) := by decide +kernel
theorem dX10_source_141 : decode cX10_source 141 = .ok (.iload_n 2, 1) := by decide +kernel
theorem dX10_source_142 : decode cX10_source 142 = .ok (.iconst 4, 1) := by decide +kernel
theorem dX10_source_143 : decode cX10_source 143 = .ok (.if_icmp .ne 7, 3) := by decide +kernel
theorem dX10_source_146 : decode cX10_source 146 = .ok (.iload_n 3, 1) := by decide +kernel
theorem dX10_source_147 : decode cX10_source 147 = .ok (.goto 5, 3) := by decide +kernel
theorem dX10_source_150 : decode cX10_source 150 = .ok (.iload 4, 2) := by decide +kernel
theorem dX10_source_152 : decode cX10_source 152 = .ok (.ireturn, 1) := by decide +kernel
theorem dX10_sourceValue_0 : decode cX10_sourceValue 0 = .ok (.aload_n 0, 1) := by decide +kernel
theorem dX10_sourceValue_1 : decode cX10_sourceValue 1 = .ok (.iload_n 1, 1) := by decide +kernel
theorem dX10_sourceValue_2 : decode cX10_sourceValue 2 = .ok (.invokevirtual 119, 3) := by decide +kernel
theorem dX10_sourceValue_5 : decode cX10_sourceValue 5 = .ok (.ifCond .eq 19, 3) := by decide +kernel
theorem dX10_sourceValue_8 : decode cX10_sourceValue 8 = .ok (.iload_n 2, 1) := by decide +kernel
theorem dX10_sourceValue_9 : decode cX10_sourceValue 9 = .ok (.iconst 0, 1) := by decide +kernel
theorem dX10_sourceValue_10 : decode cX10_sourceValue 10 = .ok (.aload_n 0, 1) := by decide +kernel
theorem dX10_sourceValue_11 : decode cX10_sourceValue 11 = .ok (.iload_n 1, 1) := by decide +kernel
theorem dX10_sourceValue_12 : decode cX10_sourceValue 12 = .ok (.iconst 1, 1) := by decide +kernel
theorem dX10_sourceValue_13 : decode cX10_sourceValue 13 = .ok (.invokevirtual 114, 3) := by decide +kernel
theorem dX10_sourceValue_16 : decode cX10_sourceValue 16 = .ok (.iconst 1, 1) := by decide +kernel
theorem dX10_sourceValue_17 : decode cX10_sourceValue 17 = .ok (.isub, 1) := by decide +kernel
theorem dX10_sourceValue_18 : decode cX10_sourceValue 18 = .ok (.invokestatic 103, 3) := by decide +kernel
theorem dX10_sourceValue_21 : decode cX10_sourceValue 21 = .ok (.ifCond .ne 5, 3) := by decide +kernel
theorem dX10_sourceValue_24 : decode cX10_sourceValue 24 = .ok (.iconst (-1), 1) := by decide +kernel
theorem dX10_sourceValue_25 : decode cX10_sourceValue 25 = .ok (.ireturn, 1) := by decide +kernel
theorem dX10_sourceValue_26 : decode cX10_sourceValue 26 = .ok (.aload_n 0, 1) := by decide +kernel
theorem dX10_sourceValue_27 : decode cX10_sourceValue 27 = .ok (.invokevirtual 123, 3) := by decide +kernel
theorem dX10_sourceValue_30 : decode cX10_sourceValue 30 = .ok (.aload_n 0, 1) := by decide +kernel
theorem dX10_sourceValue_31 : decode cX10_sourceValue 31 = .ok (.getfield 31, 3) := by decide +kernel
theorem dX10_sourceValue_34 : decode cX10_sourceValue 34 = .ok (.sipush 200, 3) := by decide +kernel
theorem dX10_sourceValue_37 : decode cX10_sourceValue 37 = .ok (.iload_n 1, 1) := by decide +kernel
theorem dX10_sourceValue_38 : decode cX10_sourceValue 38 = .ok (.imul, 1) := by decide +kernel
theorem dX10_sourceValue_39 : decode cX10_sourceValue 39 = .ok (.iload_n 2, 1) := by decide +kernel
theorem dX10_sourceValue_40 : decode cX10_sourceValue 40 = .ok (.iadd, 1) := by decide +kernel
theorem dX10_sourceValue_41 : decode cX10_sourceValue 41 = .ok (.iaload, 1) := by decide +kernel
theorem dX10_sourceValue_42 : decode cX10_sourceValue 42 = .ok (.ireturn, 1) := by decide +kernel
theorem dX10_isSetting_0 : decode cX10_isSetting 0 = .ok (.iload_n 0, 1) := by decide +kernel
theorem dX10_isSetting_1 : decode cX10_isSetting 1 = .ok (.ifCond .ne 14, 3) := by decide +kernel
theorem dX10_isSetting_4 : decode cX10_isSetting 4 = .ok (.iload_n 1, 1) := by decide +kernel
theorem dX10_isSetting_5 : decode cX10_isSetting 5 = .ok (.iconst 0, 1) := by decide +kernel
theorem dX10_isSetting_6 : decode cX10_isSetting 6 = .ok (.sipush 400, 3) := by decide +kernel
theorem dX10_isSetting_9 : decode cX10_isSetting 9 = .ok (.invokestatic 103, 3) := by decide +kernel
theorem dX10_isSetting_12 : decode cX10_isSetting 12 = .ok (.goto 55, 3) := by decide +kernel
theorem dX10_isSetting_15 : decode cX10_isSetting 15 = .ok (.iload_n 0, 1) := by decide +kernel
theorem dX10_isSetting_16 : decode cX10_isSetting 16 = .ok (.iconst 1, 1) := by decide +kernel
theorem dX10_isSetting_17 : decode cX10_isSetting 17 = .ok (.if_icmp .ne 13, 3) := by decide +kernel
theorem dX10_isSetting_20 : decode cX10_isSetting 20 = .ok (.iload_n 1, 1) := by decide +kernel
theorem dX10_isSetting_21 : decode cX10_isSetting 21 = .ok (.iconst 4, 1) := by decide +kernel
theorem dX10_isSetting_22 : decode cX10_isSetting 22 = .ok (.bipush 50, 2) := by decide +kernel
theorem dX10_isSetting_24 : decode cX10_isSetting 24 = .ok (.invokestatic 103, 3) := by decide +kernel
theorem dX10_isSetting_27 : decode cX10_isSetting 27 = .ok (.goto 40, 3) := by decide +kernel
theorem dX10_isSetting_30 : decode cX10_isSetting 30 = .ok (.iload_n 0, 1) := by decide +kernel
theorem dX10_isSetting_31 : decode cX10_isSetting 31 = .ok (.iconst 2, 1) := by decide +kernel
theorem dX10_isSetting_32 : decode cX10_isSetting 32 = .ok (.if_icmp .ne 14, 3) := by decide +kernel
theorem dX10_isSetting_35 : decode cX10_isSetting 35 = .ok (.iload_n 1, 1) := by decide +kernel
theorem dX10_isSetting_36 : decode cX10_isSetting 36 = .ok (.iconst 0, 1) := by decide +kernel
theorem dX10_isSetting_37 : decode cX10_isSetting 37 = .ok (.sipush 999, 3) := by decide +kernel
theorem dX10_isSetting_40 : decode cX10_isSetting 40 = .ok (.invokestatic 103, 3) := by decide +kernel
theorem dX10_isSetting_43 : decode cX10_isSetting 43 = .ok (.goto 24, 3) := by decide +kernel
theorem dX10_isSetting_46 : decode cX10_isSetting 46 = .ok (.iload_n 0, 1) := by decide +kernel
theorem dX10_isSetting_47 : decode cX10_isSetting 47 = .ok (.iconst 3, 1) := by decide +kernel
theorem dX10_isSetting_48 : decode cX10_isSetting 48 = .ok (.if_icmp .ne 13, 3) := by decide +kernel
theorem dX10_isSetting_51 : decode cX10_isSetting 51 = .ok (.iload_n 1, 1) := by decide +kernel
theorem dX10_isSetting_52 : decode cX10_isSetting 52 = .ok (.iconst 0, 1) := by decide +kernel
theorem dX10_isSetting_53 : decode cX10_isSetting 53 = .ok (.bipush 100, 2) := by decide +kernel
theorem dX10_isSetting_55 : decode cX10_isSetting 55 = .ok (.invokestatic 103, 3) := by decide +kernel
theorem dX10_isSetting_58 : decode cX10_isSetting 58 = .ok (.goto 9, 3) := by decide +kernel
theorem dX10_isSetting_61 : decode cX10_isSetting 61 = .ok (.iload_n 1, 1) := by decide +kernel
theorem dX10_isSetting_62 : decode cX10_isSetting 62 = .ok (.iconst 0, 1) := by decide +kernel
theorem dX10_isSetting_63 : decode cX10_isSetting 63 = .ok (.iconst 2, 1) := by decide +kernel
theorem dX10_isSetting_64 : decode cX10_isSetting 64 = .ok (.invokestatic 103, 3) := by decide +kernel
theorem dX10_isSetting_67 : decode cX10_isSetting 67 = .ok (.ireturn, 1) := by decide +kernel
theorem dX10_set_0 : decode cX10_set 0 = .ok (.iload_n 1, 1) := by decide +kernel
theorem dX10_set_1 : decode cX10_set 1 = .ok (.iconst 0, 1) := by decide +kernel
theorem dX10_set_2 : decode cX10_set 2 = .ok (.iconst 4, 1) := by decide +kernel
theorem dX10_set_3 : decode cX10_set 3 = .ok (.invokestatic 103, 3) := by decide +kernel
theorem dX10_set_6 : decode cX10_set 6 = .ok (.ifCond .eq 11, 3) := by decide +kernel
theorem dX10_set_9 : decode cX10_set 9 = .ok (.iload_n 1, 1) := by decide +kernel
theorem dX10_set_10 : decode cX10_set 10 = .ok (.iload_n 2, 1) := by decide +kernel
theorem dX10_set_11 : decode cX10_set 11 = .ok (.invokestatic 129, 3) := by decide +kernel
theorem dX10_set_14 : decode cX10_set 14 = .ok (.ifCond .ne 6, 3) := by decide +kernel
theorem dX10_set_17 : decode cX10_set 17 = .ok (.bipush (-2), 2) := by decide +kernel
theorem dX10_set_19 : decode cX10_set 19 = .ok (.ireturn, 1) := by decide +kernel
theorem dX10_set_20 : decode cX10_set 20 = .ok (.aload_n 0, 1) := by decide +kernel
theorem dX10_set_21 : decode cX10_set 21 = .ok (.invokevirtual 107, 3) := by decide +kernel
theorem dX10_set_24 : decode cX10_set 24 = .ok (.aload_n 0, 1) := by decide +kernel
theorem dX10_set_25 : decode cX10_set 25 = .ok (.getfield 9, 3) := by decide +kernel
theorem dX10_set_28 : decode cX10_set 28 = .ok (.sipush 465, 3) := by decide +kernel
theorem dX10_set_31 : decode cX10_set 31 = .ok (.iload_n 1, 1) := by decide +kernel
theorem dX10_set_32 : decode cX10_set 32 = .ok (.iadd, 1) := by decide +kernel
theorem dX10_set_33 : decode cX10_set 33 = .ok (.iaload, 1) := by decide +kernel
theorem dX10_set_34 : decode cX10_set 34 = .ok (.istore_n 3, 1) := by decide +kernel
theorem dX10_set_35 : decode cX10_set 35 = .ok (.aload_n 0, 1) := by decide +kernel
theorem dX10_set_36 : decode cX10_set 36 = .ok (.getfield 9, 3) := by decide +kernel
theorem dX10_set_39 : decode cX10_set 39 = .ok (.sipush 465, 3) := by decide +kernel
theorem dX10_set_42 : decode cX10_set 42 = .ok (.iload_n 1, 1) := by decide +kernel
theorem dX10_set_43 : decode cX10_set 43 = .ok (.iadd, 1) := by decide +kernel
theorem dX10_set_44 : decode cX10_set 44 = .ok (.iload_n 2, 1) := by decide +kernel
theorem dX10_set_45 : decode cX10_set 45 = .ok (.iastore, 1) := by decide +kernel
theorem dX10_set_46 : decode cX10_set 46 = .ok (.aload_n 0, 1) := by decide +kernel
theorem dX10_set_47 : decode cX10_set 47 = .ok (.iload_n 3, 1) := by decide +kernel
theorem dX10_set_48 : decode cX10_set 48 = .ok (.invokevirtual 110, 3) := by decide +kernel
theorem dX10_set_51 : decode cX10_set 51 = .ok (.ireturn, 1) := by decide +kernel
theorem dX10_isTrack_0 : decode cX10_isTrack 0 = .ok (.iload_n 0, 1) := by decide +kernel
theorem dX10_isTrack_1 : decode cX10_isTrack 1 = .ok (.iconst 0, 1) := by decide +kernel
theorem dX10_isTrack_2 : decode cX10_isTrack 2 = .ok (.iconst 3, 1) := by decide +kernel
theorem dX10_isTrack_3 : decode cX10_isTrack 3 = .ok (.invokestatic 103, 3) := by decide +kernel
theorem dX10_isTrack_6 : decode cX10_isTrack 6 = .ok (.ireturn, 1) := by decide +kernel
theorem dX10_trackOf_0 : decode cX10_trackOf 0 = .ok (.aload_n 0, 1) := by decide +kernel
theorem dX10_trackOf_1 : decode cX10_trackOf 1 = .ok (.getfield 9, 3) := by decide +kernel
theorem dX10_trackOf_4 : decode cX10_trackOf 4 = .ok (.sipush 410, 3) := by decide +kernel
theorem dX10_trackOf_7 : decode cX10_trackOf 7 = .ok (.bipush 7, 2) := by decide +kernel
theorem dX10_trackOf_9 : decode cX10_trackOf 9 = .ok (.iload_n 1, 1) := by decide +kernel
theorem dX10_trackOf_10 : decode cX10_trackOf 10 = .ok (.imul, 1) := by decide +kernel
theorem dX10_trackOf_11 : decode cX10_trackOf 11 = .ok (.iadd, 1) := by decide +kernel
theorem dX10_trackOf_12 : decode cX10_trackOf 12 = .ok (.iload_n 2, 1) := by decide +kernel
theorem dX10_trackOf_13 : decode cX10_trackOf 13 = .ok (.iadd, 1) := by decide +kernel
theorem dX10_trackOf_14 : decode cX10_trackOf 14 = .ok (.iaload, 1) := by decide +kernel
theorem dX10_trackOf_15 : decode cX10_trackOf 15 = .ok (.ireturn, 1) := by decide +kernel
theorem dX10_isTrackNumber_0 : decode cX10_isTrackNumber 0 = .ok (.iload_n 1, 1) := by decide +kernel
theorem dX10_isTrackNumber_1 : decode cX10_isTrackNumber 1 = .ok (.tableswitch 92 0 5 #[39, 48, 48, 55, 75, 84], 39) := by decide +kernel
theorem dX10_isTrackNumber_40 : decode cX10_isTrackNumber 40 = .ok (.iload_n 2, 1) := by decide +kernel
theorem dX10_isTrackNumber_41 : decode cX10_isTrackNumber 41 = .ok (.iconst 0, 1) := by decide +kernel
theorem dX10_isTrackNumber_42 : decode cX10_isTrackNumber 42 = .ok (.sipush 200, 3) := by decide +kernel
theorem dX10_isTrackNumber_45 : decode cX10_isTrackNumber 45 = .ok (.invokestatic 103, 3) := by decide +kernel
theorem dX10_isTrackNumber_48 : decode cX10_isTrackNumber 48 = .ok (.ireturn, 1) := by decide +kernel
theorem dX10_isTrackNumber_49 : decode cX10_isTrackNumber 49 = .ok (.iload_n 2, 1) := by decide +kernel
theorem dX10_isTrackNumber_50 : decode cX10_isTrackNumber 50 = .ok (.iconst 0, 1) := by decide +kernel
theorem dX10_isTrackNumber_51 : decode cX10_isTrackNumber 51 = .ok (.iconst 1, 1) := by decide +kernel
theorem dX10_isTrackNumber_52 : decode cX10_isTrackNumber 52 = .ok (.invokestatic 103, 3) := by decide +kernel
theorem dX10_isTrackNumber_55 : decode cX10_isTrackNumber 55 = .ok (.ireturn, 1) := by decide +kernel
theorem dX10_isTrackNumber_56 : decode cX10_isTrackNumber 56 = .ok (.iload_n 2, 1) := by decide +kernel
theorem dX10_isTrackNumber_57 : decode cX10_isTrackNumber 57 = .ok (.iconst (-1), 1) := by decide +kernel
theorem dX10_isTrackNumber_58 : decode cX10_isTrackNumber 58 = .ok (.iconst 3, 1) := by decide +kernel
theorem dX10_isTrackNumber_59 : decode cX10_isTrackNumber 59 = .ok (.invokestatic 103, 3) := by decide +kernel
theorem dX10_isTrackNumber_62 : decode cX10_isTrackNumber 62 = .ok (.ifCond .eq 12, 3) := by decide +kernel
theorem dX10_isTrackNumber_65 : decode cX10_isTrackNumber 65 = .ok (.iload_n 2, 1) := by decide +kernel
theorem dX10_isTrackNumber_66 : decode cX10_isTrackNumber 66 = .ok (.iload_n 0, 1) := by decide +kernel
theorem dX10_isTrackNumber_67 : decode cX10_isTrackNumber 67 = .ok (.if_icmp .eq 7, 3) := by decide +kernel
theorem dX10_isTrackNumber_70 : decode cX10_isTrackNumber 70 = .ok (.iconst 1, 1) := by decide +kernel
theorem dX10_isTrackNumber_71 : decode cX10_isTrackNumber 71 = .ok (.goto 4, 3) := by decide +kernel
theorem dX10_isTrackNumber_74 : decode cX10_isTrackNumber 74 = .ok (.iconst 0, 1) := by decide +kernel
theorem dX10_isTrackNumber_75 : decode cX10_isTrackNumber 75 = .ok (.ireturn, 1) := by decide +kernel
theorem dX10_isTrackNumber_76 : decode cX10_isTrackNumber 76 = .ok (.iload_n 2, 1) := by decide +kernel
theorem dX10_isTrackNumber_77 : decode cX10_isTrackNumber 77 = .ok (.iconst 0, 1) := by decide +kernel
theorem dX10_isTrackNumber_78 : decode cX10_isTrackNumber 78 = .ok (.sipush 999, 3) := by decide +kernel
theorem dX10_isTrackNumber_81 : decode cX10_isTrackNumber 81 = .ok (.invokestatic 103, 3) := by decide +kernel
theorem dX10_isTrackNumber_84 : decode cX10_isTrackNumber 84 = .ok (.ireturn, 1) := by decide +kernel
theorem dX10_isTrackNumber_85 : decode cX10_isTrackNumber 85 = .ok (.iload_n 2, 1) := by decide +kernel
theorem dX10_isTrackNumber_86 : decode cX10_isTrackNumber 86 = .ok (.iconst 0, 1) := by decide +kernel
theorem dX10_isTrackNumber_87 : decode cX10_isTrackNumber 87 = .ok (.bipush 100, 2) := by decide +kernel
theorem dX10_isTrackNumber_89 : decode cX10_isTrackNumber 89 = .ok (.invokestatic 103, 3) := by decide +kernel
theorem dX10_isTrackNumber_92 : decode cX10_isTrackNumber 92 = .ok (.ireturn, 1) := by decide +kernel
theorem dX10_isTrackNumber_93 : decode cX10_isTrackNumber 93 = .ok (.iload_n 2, 1) := by decide +kernel
theorem dX10_isTrackNumber_94 : decode cX10_isTrackNumber 94 = .ok (.iconst 0, 1) := by decide +kernel
theorem dX10_isTrackNumber_95 : decode cX10_isTrackNumber 95 = .ok (.bipush 20, 2) := by decide +kernel
theorem dX10_isTrackNumber_97 : decode cX10_isTrackNumber 97 = .ok (.invokestatic 103, 3) := by decide +kernel
theorem dX10_isTrackNumber_100 : decode cX10_isTrackNumber 100 = .ok (.ireturn, 1) := by decide +kernel
theorem dX10_setTrack_0 : decode cX10_setTrack 0 = .ok (.iload_n 1, 1) := by decide +kernel
theorem dX10_setTrack_1 : decode cX10_setTrack 1 = .ok (.invokestatic 133, 3) := by decide +kernel
theorem dX10_setTrack_4 : decode cX10_setTrack 4 = .ok (.ifCond .ne 5, 3) := by decide +kernel
theorem dX10_setTrack_7 : decode cX10_setTrack 7 = .ok (.iconst (-1), 1) := by decide +kernel
theorem dX10_setTrack_8 : decode cX10_setTrack 8 = .ok (.ireturn, 1) := by decide +kernel
theorem dX10_setTrack_9 : decode cX10_setTrack 9 = .ok (.iload_n 2, 1) := by decide +kernel
theorem dX10_setTrack_10 : decode cX10_setTrack 10 = .ok (.iconst 0, 1) := by decide +kernel
theorem dX10_setTrack_11 : decode cX10_setTrack 11 = .ok (.bipush 6, 2) := by decide +kernel
theorem dX10_setTrack_13 : decode cX10_setTrack 13 = .ok (.invokestatic 103, 3) := by decide +kernel
theorem dX10_setTrack_16 : decode cX10_setTrack 16 = .ok (.ifCond .eq 12, 3) := by decide +kernel
theorem dX10_setTrack_19 : decode cX10_setTrack 19 = .ok (.iload_n 1, 1) := by decide +kernel
theorem dX10_setTrack_20 : decode cX10_setTrack 20 = .ok (.iload_n 2, 1) := by decide +kernel
theorem dX10_setTrack_21 : decode cX10_setTrack 21 = .ok (.iload_n 3, 1) := by decide +kernel
theorem dX10_setTrack_22 : decode cX10_setTrack 22 = .ok (.invokestatic 136, 3) := by decide +kernel
theorem dX10_setTrack_25 : decode cX10_setTrack 25 = .ok (.ifCond .ne 6, 3) := by decide +kernel
theorem dX10_setTrack_28 : decode cX10_setTrack 28 = .ok (.bipush (-2), 2) := by decide +kernel
theorem dX10_setTrack_30 : decode cX10_setTrack 30 = .ok (.ireturn, 1) := by decide +kernel
theorem dX10_setTrack_31 : decode cX10_setTrack 31 = .ok (.aload_n 0, 1) := by decide +kernel
theorem dX10_setTrack_32 : decode cX10_setTrack 32 = .ok (.invokevirtual 107, 3) := by decide +kernel
theorem dX10_setTrack_35 : decode cX10_setTrack 35 = .ok (.aload_n 0, 1) := by decide +kernel
theorem dX10_setTrack_36 : decode cX10_setTrack 36 = .ok (.iload_n 1, 1) := by decide +kernel
theorem dX10_setTrack_37 : decode cX10_setTrack 37 = .ok (.iload_n 2, 1) := by decide +kernel
theorem dX10_setTrack_38 : decode cX10_setTrack 38 = .ok (.invokevirtual 139, 3) := by decide +kernel
theorem dX10_setTrack_41 : decode cX10_setTrack 41 = .ok (.istore 4, 2) := by decide +kernel
theorem dX10_setTrack_43 : decode cX10_setTrack 43 = .ok (.aload_n 0, 1) := by decide +kernel
theorem dX10_setTrack_44 : decode cX10_setTrack 44 = .ok (.getfield 9, 3) := by decide +kernel
theorem dX10_setTrack_47 : decode cX10_setTrack 47 = .ok (.sipush 410, 3) := by decide +kernel
theorem dX10_setTrack_50 : decode cX10_setTrack 50 = .ok (.bipush 7, 2) := by decide +kernel
theorem dX10_setTrack_52 : decode cX10_setTrack 52 = .ok (.iload_n 1, 1) := by decide +kernel
theorem dX10_setTrack_53 : decode cX10_setTrack 53 = .ok (.imul, 1) := by decide +kernel
theorem dX10_setTrack_54 : decode cX10_setTrack 54 = .ok (.iadd, 1) := by decide +kernel
theorem dX10_setTrack_55 : decode cX10_setTrack 55 = .ok (.iload_n 2, 1) := by decide +kernel
theorem dX10_setTrack_56 : decode cX10_setTrack 56 = .ok (.iadd, 1) := by decide +kernel
theorem dX10_setTrack_57 : decode cX10_setTrack 57 = .ok (.iload_n 3, 1) := by decide +kernel
theorem dX10_setTrack_58 : decode cX10_setTrack 58 = .ok (.iastore, 1) := by decide +kernel
theorem dX10_setTrack_59 : decode cX10_setTrack 59 = .ok (.aload_n 0, 1) := by decide +kernel
theorem dX10_setTrack_60 : decode cX10_setTrack 60 = .ok (.iload_n 2, 1) := by decide +kernel
theorem dX10_setTrack_61 : decode cX10_setTrack 61 = .ok (.iconst 3, 1) := by decide +kernel
theorem dX10_setTrack_62 : decode cX10_setTrack 62 = .ok (.if_icmp .ne 14, 3) := by decide +kernel
theorem dX10_setTrack_65 : decode cX10_setTrack 65 = .ok (.iload 4, 2) := by decide +kernel
theorem dX10_setTrack_67 : decode cX10_setTrack 67 = .ok (.iconst (-1), 1) := by decide +kernel
theorem dX10_setTrack_68 : decode cX10_setTrack 68 = .ok (.if_icmp .ne 8, 3) := by decide +kernel
theorem dX10_setTrack_71 : decode cX10_setTrack 71 = .ok (.bipush (-6), 2) := by decide +kernel
theorem dX10_setTrack_73 : decode cX10_setTrack 73 = .ok (.goto 5, 3) := by decide +kernel
theorem dX10_setTrack_76 : decode cX10_setTrack 76 = .ok (.iload 4, 2) := by decide +kernel
theorem dX10_setTrack_78 : decode cX10_setTrack 78 = .ok (.invokevirtual 110, 3) := by decide +kernel
theorem dX10_setTrack_81 : decode cX10_setTrack 81 = .ok (.ireturn, 1) := by decide +kernel
theorem dX10_faded_0 : decode cX10_faded 0 = .ok (.aload_n 0, 1) := by decide +kernel
theorem dX10_faded_1 : decode cX10_faded 1 = .ok (.getfield 9, 3) := by decide +kernel
theorem dX10_faded_4 : decode cX10_faded 4 = .ok (.sipush 469, 3) := by decide +kernel
theorem dX10_faded_7 : decode cX10_faded 7 = .ok (.iaload, 1) := by decide +kernel
theorem dX10_faded_8 : decode cX10_faded 8 = .ok (.istore 4, 2) := by decide +kernel
theorem dX10_faded_10 : decode cX10_faded 10 = .ok (.iload 4, 2) := by decide +kernel
theorem dX10_faded_12 : decode cX10_faded 12 = .ok (.ifCond .ne 11, 3) := by decide +kernel
theorem dX10_faded_15 : decode cX10_faded 15 = .ok (.iload_n 1, 1) := by decide +kernel
theorem dX10_faded_16 : decode cX10_faded 16 = .ok (.iload_n 2, 1) := by decide +kernel
theorem dX10_faded_17 : decode cX10_faded 17 = .ok (.imul, 1) := by decide +kernel
theorem dX10_faded_18 : decode cX10_faded 18 = .ok (.iload_n 3, 1) := by decide +kernel
theorem dX10_faded_19 : decode cX10_faded 19 = .ok (.idiv, 1) := by decide +kernel
theorem dX10_faded_20 : decode cX10_faded 20 = .ok (.goto 33, 3) := by decide +kernel
theorem dX10_faded_23 : decode cX10_faded 23 = .ok (.iload 4, 2) := by decide +kernel
theorem dX10_faded_25 : decode cX10_faded 25 = .ok (.iconst 1, 1) := by decide +kernel
theorem dX10_faded_26 : decode cX10_faded 26 = .ok (.if_icmp .ne 15, 3) := by decide +kernel
theorem dX10_faded_29 : decode cX10_faded 29 = .ok (.iload_n 1, 1) := by decide +kernel
theorem dX10_faded_30 : decode cX10_faded 30 = .ok (.iload_n 2, 1) := by decide +kernel
theorem dX10_faded_31 : decode cX10_faded 31 = .ok (.imul, 1) := by decide +kernel
theorem dX10_faded_32 : decode cX10_faded 32 = .ok (.iload_n 2, 1) := by decide +kernel
theorem dX10_faded_33 : decode cX10_faded 33 = .ok (.imul, 1) := by decide +kernel
theorem dX10_faded_34 : decode cX10_faded 34 = .ok (.iload_n 3, 1) := by decide +kernel
theorem dX10_faded_35 : decode cX10_faded 35 = .ok (.iload_n 3, 1) := by decide +kernel
theorem dX10_faded_36 : decode cX10_faded 36 = .ok (.imul, 1) := by decide +kernel
theorem dX10_faded_37 : decode cX10_faded 37 = .ok (.idiv, 1) := by decide +kernel
theorem dX10_faded_38 : decode cX10_faded 38 = .ok (.goto 15, 3) := by decide +kernel
theorem dX10_faded_41 : decode cX10_faded 41 = .ok (.iconst 2, 1) := by decide +kernel
theorem dX10_faded_42 : decode cX10_faded 42 = .ok (.iload_n 2, 1) := by decide +kernel
theorem dX10_faded_43 : decode cX10_faded 43 = .ok (.imul, 1) := by decide +kernel
theorem dX10_faded_44 : decode cX10_faded 44 = .ok (.iload_n 3, 1) := by decide +kernel
theorem dX10_faded_45 : decode cX10_faded 45 = .ok (.if_icmp .ge 7, 3) := by decide +kernel
theorem dX10_faded_48 : decode cX10_faded 48 = .ok (.iconst 0, 1) := by decide +kernel
theorem dX10_faded_49 : decode cX10_faded 49 = .ok (.goto 4, 3) := by decide +kernel
theorem dX10_faded_52 : decode cX10_faded 52 = .ok (.iload_n 1, 1) := by decide +kernel
theorem dX10_faded_53 : decode cX10_faded 53 = .ok (.ireturn, 1) := by decide +kernel
theorem dX10_clipValue_0 : decode cX10_clipValue 0 = .ok (.aload_n 0, 1) := by decide +kernel
theorem dX10_clipValue_1 : decode cX10_clipValue 1 = .ok (.getfield 31, 3) := by decide +kernel
theorem dX10_clipValue_4 : decode cX10_clipValue 4 = .ok (.sipush 200, 3) := by decide +kernel
theorem dX10_clipValue_7 : decode cX10_clipValue 7 = .ok (.aload_n 0, 1) := by decide +kernel
theorem dX10_clipValue_8 : decode cX10_clipValue 8 = .ok (.iload_n 1, 1) := by decide +kernel
theorem dX10_clipValue_9 : decode cX10_clipValue 9 = .ok (.iconst 2, 1) := by decide +kernel
theorem dX10_clipValue_10 : decode cX10_clipValue 10 = .ok (.invokevirtual 126, 3) := by decide +kernel
theorem dX10_clipValue_13 : decode cX10_clipValue 13 = .ok (.imul, 1) := by decide +kernel
theorem dX10_clipValue_14 : decode cX10_clipValue 14 = .ok (.aload_n 0, 1) := by decide +kernel
theorem dX10_clipValue_15 : decode cX10_clipValue 15 = .ok (.iload_n 1, 1) := by decide +kernel
theorem dX10_clipValue_16 : decode cX10_clipValue 16 = .ok (.iconst 3, 1) := by decide +kernel
theorem dX10_clipValue_17 : decode cX10_clipValue 17 = .ok (.invokevirtual 126, 3) := by decide +kernel
theorem dX10_clipValue_20 : decode cX10_clipValue 20 = .ok (.iadd, 1) := by decide +kernel
theorem dX10_clipValue_21 : decode cX10_clipValue 21 = .ok (.iload_n 2, 1) := by decide +kernel
theorem dX10_clipValue_22 : decode cX10_clipValue 22 = .ok (.iadd, 1) := by decide +kernel
theorem dX10_clipValue_23 : decode cX10_clipValue 23 = .ok (.iaload, 1) := by decide +kernel
theorem dX10_clipValue_24 : decode cX10_clipValue 24 = .ok (.aload_n 0, 1) := by decide +kernel
theorem dX10_clipValue_25 : decode cX10_clipValue 25 = .ok (.iload_n 1, 1) := by decide +kernel
theorem dX10_clipValue_26 : decode cX10_clipValue 26 = .ok (.iconst 5, 1) := by decide +kernel
theorem dX10_clipValue_27 : decode cX10_clipValue 27 = .ok (.invokevirtual 126, 3) := by decide +kernel
theorem dX10_clipValue_30 : decode cX10_clipValue 30 = .ok (.imul, 1) := by decide +kernel
theorem dX10_clipValue_31 : decode cX10_clipValue 31 = .ok (.bipush 100, 2) := by decide +kernel
theorem dX10_clipValue_33 : decode cX10_clipValue 33 = .ok (.idiv, 1) := by decide +kernel
theorem dX10_clipValue_34 : decode cX10_clipValue 34 = .ok (.istore_n 3, 1) := by decide +kernel
theorem dX10_clipValue_35 : decode cX10_clipValue 35 = .ok (.iload_n 2, 1) := by decide +kernel
theorem dX10_clipValue_36 : decode cX10_clipValue 36 = .ok (.aload_n 0, 1) := by decide +kernel
theorem dX10_clipValue_37 : decode cX10_clipValue 37 = .ok (.iload_n 1, 1) := by decide +kernel
theorem dX10_clipValue_38 : decode cX10_clipValue 38 = .ok (.bipush 6, 2) := by decide +kernel
theorem dX10_clipValue_40 : decode cX10_clipValue 40 = .ok (.invokevirtual 126, 3) := by decide +kernel
theorem dX10_clipValue_43 : decode cX10_clipValue 43 = .ok (.if_icmp .ge 21, 3) := by decide +kernel
theorem dX10_clipValue_46 : decode cX10_clipValue 46 = .ok (.aload_n 0, 1) := by decide +kernel
theorem dX10_clipValue_47 : decode cX10_clipValue 47 = .ok (.iload_n 3, 1) := by decide +kernel
theorem dX10_clipValue_48 : decode cX10_clipValue 48 = .ok (.iload_n 2, 1) := by decide +kernel
theorem dX10_clipValue_49 : decode cX10_clipValue 49 = .ok (.iconst 1, 1) := by decide +kernel
theorem dX10_clipValue_50 : decode cX10_clipValue 50 = .ok (.iadd, 1) := by decide +kernel
theorem dX10_clipValue_51 : decode cX10_clipValue 51 = .ok (.aload_n 0, 1) := by decide +kernel
theorem dX10_clipValue_52 : decode cX10_clipValue 52 = .ok (.iload_n 1, 1) := by decide +kernel
theorem dX10_clipValue_53 : decode cX10_clipValue 53 = .ok (.bipush 6, 2) := by decide +kernel
theorem dX10_clipValue_55 : decode cX10_clipValue 55 = .ok (.invokevirtual 126, 3) := by decide +kernel
theorem dX10_clipValue_58 : decode cX10_clipValue 58 = .ok (.iconst 1, 1) := by decide +kernel
theorem dX10_clipValue_59 : decode cX10_clipValue 59 = .ok (.iadd, 1) := by decide +kernel
theorem dX10_clipValue_60 : decode cX10_clipValue 60 = .ok (.invokevirtual 142, 3) := by decide +kernel
theorem dX10_clipValue_63 : decode cX10_clipValue 63 = .ok (.istore_n 3, 1) := by decide +kernel
theorem dX10_clipValue_64 : decode cX10_clipValue 64 = .ok (.aload_n 0, 1) := by decide +kernel
theorem dX10_clipValue_65 : decode cX10_clipValue 65 = .ok (.iload_n 1, 1) := by decide +kernel
theorem dX10_clipValue_66 : decode cX10_clipValue 66 = .ok (.iconst 4, 1) := by decide +kernel
theorem dX10_clipValue_67 : decode cX10_clipValue 67 = .ok (.invokevirtual 126, 3) := by decide +kernel
theorem dX10_clipValue_70 : decode cX10_clipValue 70 = .ok (.iload_n 2, 1) := by decide +kernel
theorem dX10_clipValue_71 : decode cX10_clipValue 71 = .ok (.isub, 1) := by decide +kernel
theorem dX10_clipValue_72 : decode cX10_clipValue 72 = .ok (.istore 4, 2) := by decide +kernel
theorem dX10_clipValue_74 : decode cX10_clipValue 74 = .ok (.iload 4, 2) := by decide +kernel
theorem dX10_clipValue_76 : decode cX10_clipValue 76 = .ok (.aload_n 0, 1) := by decide +kernel
theorem dX10_clipValue_77 : decode cX10_clipValue 77 = .ok (.iload_n 1, 1) := by decide +kernel
theorem dX10_clipValue_78 : decode cX10_clipValue 78 = .ok (.bipush 7, 2) := by decide +kernel
theorem dX10_clipValue_80 : decode cX10_clipValue 80 = .ok (.invokevirtual 126, 3) := by decide +kernel
theorem dX10_clipValue_83 : decode cX10_clipValue 83 = .ok (.if_icmp .gt 20, 3) := by decide +kernel
theorem dX10_clipValue_86 : decode cX10_clipValue 86 = .ok (.aload_n 0, 1) := by decide +kernel
theorem dX10_clipValue_87 : decode cX10_clipValue 87 = .ok (.iload_n 3, 1) := by decide +kernel
theorem dX10_clipValue_88 : decode cX10_clipValue 88 = .ok (.iload 4, 2) := by decide +kernel
theorem dX10_clipValue_90 : decode cX10_clipValue 90 = .ok (.aload_n 0, 1) := by decide +kernel
theorem dX10_clipValue_91 : decode cX10_clipValue 91 = .ok (.iload_n 1, 1) := by decide +kernel
theorem dX10_clipValue_92 : decode cX10_clipValue 92 = .ok (.bipush 7, 2) := by decide +kernel
theorem dX10_clipValue_94 : decode cX10_clipValue 94 = .ok (.invokevirtual 126, 3) := by decide +kernel
theorem dX10_clipValue_97 : decode cX10_clipValue 97 = .ok (.iconst 1, 1) := by decide +kernel
theorem dX10_clipValue_98 : decode cX10_clipValue 98 = .ok (.iadd, 1) := by decide +kernel
theorem dX10_clipValue_99 : decode cX10_clipValue 99 = .ok (.invokevirtual 142, 3) := by decide +kernel
theorem dX10_clipValue_102 : decode cX10_clipValue 102 = .ok (.istore_n 3, 1) := by decide +kernel
theorem dX10_clipValue_103 : decode cX10_clipValue 103 = .ok (.iload_n 3, 1) := by decide +kernel
theorem dX10_clipValue_104 : decode cX10_clipValue 104 = .ok (.sipush 999, 3) := by decide +kernel
theorem dX10_clipValue_107 : decode cX10_clipValue 107 = .ok (.if_icmp .le 9, 3) := by decide +kernel
theorem dX10_clipValue_110 : decode cX10_clipValue 110 = .ok (.sipush 999, 3) := by decide +kernel
theorem dX10_clipValue_113 : decode cX10_clipValue 113 = .ok (.goto 4, 3) := by decide +kernel
theorem dX10_clipValue_116 : decode cX10_clipValue 116 = .ok (.iload_n 3, 1) := by decide +kernel
theorem dX10_clipValue_117 : decode cX10_clipValue 117 = .ok (.ireturn, 1) := by decide +kernel
theorem dX10_isAudible_0 : decode cX10_isAudible 0 = .ok (.iconst 0, 1) := by decide +kernel
theorem dX10_isAudible_1 : decode cX10_isAudible 1 = .ok (.istore_n 2, 1) := by decide +kernel
theorem dX10_isAudible_2 : decode cX10_isAudible 2 = .ok (.iconst 0, 1) := by decide +kernel
theorem dX10_isAudible_3 : decode cX10_isAudible 3 = .ok (.istore_n 3, 1) := by decide +kernel
theorem dX10_isAudible_4 : decode cX10_isAudible 4 = .ok (.iload_n 3, 1) := by decide +kernel
theorem dX10_isAudible_5 : decode cX10_isAudible 5 = .ok (.iconst 4, 1) := by decide +kernel
theorem dX10_isAudible_6 : decode cX10_isAudible 6 = .ok (.if_icmp .ge 27, 3) := by decide +kernel
theorem dX10_isAudible_9 : decode cX10_isAudible 9 = .ok (.iload_n 2, 1) := by decide +kernel
theorem dX10_isAudible_10 : decode cX10_isAudible 10 = .ok (.aload_n 0, 1) := by decide +kernel
theorem dX10_isAudible_11 : decode cX10_isAudible 11 = .ok (.iload_n 3, 1) := by decide +kernel
theorem dX10_isAudible_12 : decode cX10_isAudible 12 = .ok (.iconst 2, 1) := by decide +kernel
theorem dX10_isAudible_13 : decode cX10_isAudible 13 = .ok (.invokevirtual 139, 3) := by decide +kernel
theorem dX10_isAudible_16 : decode cX10_isAudible 16 = .ok (.iconst 1, 1) := by decide +kernel
theorem dX10_isAudible_17 : decode cX10_isAudible 17 = .ok (.if_icmp .ne 7, 3) := by decide +kernel
theorem dX10_isAudible_20 : decode cX10_isAudible 20 = .ok (.iconst 1, 1) := by decide +kernel
theorem dX10_isAudible_21 : decode cX10_isAudible 21 = .ok (.goto 4, 3) := by decide +kernel
theorem dX10_isAudible_24 : decode cX10_isAudible 24 = .ok (.iconst 0, 1) := by decide +kernel
theorem dX10_isAudible_25 : decode cX10_isAudible 25 = .ok (.ior, 1) := by decide +kernel
theorem dX10_isAudible_26 : decode cX10_isAudible 26 = .ok (.istore_n 2, 1) := by decide +kernel
theorem dX10_isAudible_27 : decode cX10_isAudible 27 = .ok (.iinc 3 1, 3) := by decide +kernel
theorem dX10_isAudible_30 : decode cX10_isAudible 30 = .ok (.goto (-26), 3) := by decide +kernel
theorem dX10_isAudible_33 : decode cX10_isAudible 33 = .ok (.aload_n 0, 1) := by decide +kernel
theorem dX10_isAudible_34 : decode cX10_isAudible 34 = .ok (.iload_n 1, 1) := by decide +kernel
theorem dX10_isAudible_35 : decode cX10_isAudible 35 = .ok (.iconst 1, 1) := by decide +kernel
theorem dX10_isAudible_36 : decode cX10_isAudible 36 = .ok (.invokevirtual 139, 3) := by decide +kernel
theorem dX10_isAudible_39 : decode cX10_isAudible 39 = .ok (.ifCond .ne 21, 3) := by decide +kernel
theorem dX10_isAudible_42 : decode cX10_isAudible 42 = .ok (.aload_n 0, 1) := by decide +kernel
theorem dX10_isAudible_43 : decode cX10_isAudible 43 = .ok (.iload_n 1, 1) := by decide +kernel
theorem dX10_isAudible_44 : decode cX10_isAudible 44 = .ok (.iconst 2, 1) := by decide +kernel
theorem dX10_isAudible_45 : decode cX10_isAudible 45 = .ok (.invokevirtual 139, 3) := by decide +kernel
theorem dX10_isAudible_48 : decode cX10_isAudible 48 = .ok (.iconst 1, 1) := by decide +kernel
theorem dX10_isAudible_49 : decode cX10_isAudible 49 = .ok (.if_icmp .eq 7, 3) := by decide +kernel
theorem dX10_isAudible_52 : decode cX10_isAudible 52 = .ok (.iload_n 2, 1) := by decide +kernel
theorem dX10_isAudible_53 : decode cX10_isAudible 53 = .ok (.ifCond .ne 7, 3) := by decide +kernel
theorem dX10_isAudible_56 : decode cX10_isAudible 56 = .ok (.iconst 1, 1) := by decide +kernel
theorem dX10_isAudible_57 : decode cX10_isAudible 57 = .ok (.goto 4, 3) := by decide +kernel
theorem dX10_isAudible_60 : decode cX10_isAudible 60 = .ok (.iconst 0, 1) := by decide +kernel
theorem dX10_isAudible_61 : decode cX10_isAudible 61 = .ok (.ireturn, 1) := by decide +kernel
theorem dX10_works_0 : decode cX10_works 0 = .ok (.aload_n 0, 1) := by decide +kernel
theorem dX10_works_1 : decode cX10_works 1 = .ok (.invokevirtual 123, 3) := by decide +kernel
theorem dX10_works_4 : decode cX10_works 4 = .ok (.iconst 0, 1) := by decide +kernel
theorem dX10_works_5 : decode cX10_works 5 = .ok (.istore_n 1, 1) := by decide +kernel
theorem dX10_works_6 : decode cX10_works 6 = .ok (.iload_n 1, 1) := by decide +kernel
theorem dX10_works_7 : decode cX10_works 7 = .ok (.sipush 2400, 3) := by decide +kernel
theorem dX10_works_10 : decode cX10_works 10 = .ok (.if_icmp .ge 16, 3) := by decide +kernel
theorem dX10_works_13 : decode cX10_works 13 = .ok (.aload_n 0, 1) := by decide +kernel
theorem dX10_works_14 : decode cX10_works 14 = .ok (.getfield 34, 3) := by decide +kernel
theorem dX10_works_17 : decode cX10_works 17 = .ok (.iload_n 1, 1) := by decide +kernel
theorem dX10_works_18 : decode cX10_works 18 = .ok (.iconst 0, 1) := by decide +kernel
theorem dX10_works_19 : decode cX10_works 19 = .ok (.iastore, 1) := by decide +kernel
theorem dX10_works_20 : decode cX10_works 20 = .ok (.iinc 1 1, 3) := by decide +kernel
theorem dX10_works_23 : decode cX10_works 23 = .ok (.goto (-17), 3) := by decide +kernel
theorem dX10_works_26 : decode cX10_works 26 = .ok (.iconst 0, 1) := by decide +kernel
theorem dX10_works_27 : decode cX10_works 27 = .ok (.istore_n 1, 1) := by decide +kernel
