theorem dX0_init_0 : decode cX0_init 0 = .ok (.aload_n 0, 1) := by decide +kernel
theorem dX0_init_1 : decode cX0_init 1 = .ok (.invokespecial 3, 3) := by decide +kernel
theorem dX0_init_4 : decode cX0_init 4 = .ok (.aload_n 0, 1) := by decide +kernel
theorem dX0_init_5 : decode cX0_init 5 = .ok (.new 9, 3) := by decide +kernel
theorem dX0_init_8 : decode cX0_init 8 = .ok (.dup, 1) := by decide +kernel
theorem dX0_init_9 : decode cX0_init 9 = .ok (.bipush 12, 2) := by decide +kernel
theorem dX0_init_11 : decode cX0_init 11 = .ok (.bipush 11, 2) := by decide +kernel
theorem dX0_init_13 : decode cX0_init 13 = .ok (.invokespecial 13, 3) := by decide +kernel
theorem dX0_init_16 : decode cX0_init 16 = .ok (.putfield 16, 3) := by decide +kernel
theorem dX0_init_19 : decode cX0_init 19 = .ok (.aload_n 0, 1) := by decide +kernel
theorem dX0_init_20 : decode cX0_init 20 = .ok (.new 9, 3) := by decide +kernel
theorem dX0_init_23 : decode cX0_init 23 = .ok (.dup, 1) := by decide +kernel
theorem dX0_init_24 : decode cX0_init 24 = .ok (.iconst 5, 1) := by decide +kernel
theorem dX0_init_25 : decode cX0_init 25 = .ok (.bipush 6, 2) := by decide +kernel
theorem dX0_init_27 : decode cX0_init 27 = .ok (.invokespecial 13, 3) := by decide +kernel
theorem dX0_init_30 : decode cX0_init 30 = .ok (.putfield 20, 3) := by decide +kernel
theorem dX0_init_33 : decode cX0_init 33 = .ok (.aload_n 0, 1) := by decide +kernel
theorem dX0_init_34 : decode cX0_init 34 = .ok (.new 9, 3) := by decide +kernel
theorem dX0_init_37 : decode cX0_init 37 = .ok (.dup, 1) := by decide +kernel
theorem dX0_init_38 : decode cX0_init 38 = .ok (.iconst 5, 1) := by decide +kernel
theorem dX0_init_39 : decode cX0_init 39 = .ok (.iconst 3, 1) := by decide +kernel
theorem dX0_init_40 : decode cX0_init 40 = .ok (.invokespecial 13, 3) := by decide +kernel
theorem dX0_init_43 : decode cX0_init 43 = .ok (.putfield 23, 3) := by decide +kernel
theorem dX0_init_46 : decode cX0_init 46 = .ok (.aload_n 0, 1) := by decide +kernel
theorem dX0_init_47 : decode cX0_init 47 = .ok (.new 26, 3) := by decide +kernel
theorem dX0_init_50 : decode cX0_init 50 = .ok (.dup, 1) := by decide +kernel
theorem dX0_init_51 : decode cX0_init 51 = .ok (.bipush 100, 2) := by decide +kernel
theorem dX0_init_53 : decode cX0_init 53 = .ok (.iconst 0, 1) := by decide +kernel
theorem dX0_init_54 : decode cX0_init 54 = .ok (.invokespecial 28, 3) := by decide +kernel
theorem dX0_init_57 : decode cX0_init 57 = .ok (.putfield 29, 3) := by decide +kernel
theorem dX0_init_60 : decode cX0_init 60 = .ok (.aload_n 0, 1) := by decide +kernel
theorem dX0_init_61 : decode cX0_init 61 = .ok (.new 26, 3) := by decide +kernel
theorem dX0_init_64 : decode cX0_init 64 = .ok (.dup, 1) := by decide +kernel
theorem dX0_init_65 : decode cX0_init 65 = .ok (.bipush 100, 2) := by decide +kernel
theorem dX0_init_67 : decode cX0_init 67 = .ok (.iconst (-1), 1) := by decide +kernel
theorem dX0_init_68 : decode cX0_init 68 = .ok (.invokespecial 28, 3) := by decide +kernel
theorem dX0_init_71 : decode cX0_init 71 = .ok (.putfield 33, 3) := by decide +kernel
theorem dX0_init_74 : decode cX0_init 74 = .ok (.aload_n 0, 1) := by decide +kernel
theorem dX0_init_75 : decode cX0_init 75 = .ok (.new 26, 3) := by decide +kernel
theorem dX0_init_78 : decode cX0_init 78 = .ok (.dup, 1) := by decide +kernel
theorem dX0_init_79 : decode cX0_init 79 = .ok (.bipush 12, 2) := by decide +kernel
theorem dX0_init_81 : decode cX0_init 81 = .ok (.iconst (-1), 1) := by decide +kernel
theorem dX0_init_82 : decode cX0_init 82 = .ok (.invokespecial 28, 3) := by decide +kernel
theorem dX0_init_85 : decode cX0_init 85 = .ok (.putfield 36, 3) := by decide +kernel
theorem dX0_init_88 : decode cX0_init 88 = .ok (.return_, 1) := by decide +kernel
theorem dX0_begin_0 : decode cX0_begin 0 = .ok (.aload_n 0, 1) := by decide +kernel
theorem dX0_begin_1 : decode cX0_begin 1 = .ok (.iload_n 1, 1) := by decide +kernel
theorem dX0_begin_2 : decode cX0_begin 2 = .ok (.putfield 39, 3) := by decide +kernel
theorem dX0_begin_5 : decode cX0_begin 5 = .ok (.aload_n 0, 1) := by decide +kernel
theorem dX0_begin_6 : decode cX0_begin 6 = .ok (.iload_n 2, 1) := by decide +kernel
theorem dX0_begin_7 : decode cX0_begin 7 = .ok (.putfield 43, 3) := by decide +kernel
theorem dX0_begin_10 : decode cX0_begin 10 = .ok (.aload_n 0, 1) := by decide +kernel
theorem dX0_begin_11 : decode cX0_begin 11 = .ok (.sipush 500, 3) := by decide +kernel
theorem dX0_begin_14 : decode cX0_begin 14 = .ok (.putfield 46, 3) := by decide +kernel
theorem dX0_begin_17 : decode cX0_begin 17 = .ok (.aload_n 0, 1) := by decide +kernel
theorem dX0_begin_18 : decode cX0_begin 18 = .ok (.iconst 1, 1) := by decide +kernel
theorem dX0_begin_19 : decode cX0_begin 19 = .ok (.putfield 49, 3) := by decide +kernel
theorem dX0_begin_22 : decode cX0_begin 22 = .ok (.aload_n 0, 1) := by decide +kernel
theorem dX0_begin_23 : decode cX0_begin 23 = .ok (.iconst 0, 1) := by decide +kernel
theorem dX0_begin_24 : decode cX0_begin 24 = .ok (.putfield 52, 3) := by decide +kernel
theorem dX0_begin_27 : decode cX0_begin 27 = .ok (.aload_n 0, 1) := by decide +kernel
theorem dX0_begin_28 : decode cX0_begin 28 = .ok (.iconst 0, 1) := by decide +kernel
theorem dX0_begin_29 : decode cX0_begin 29 = .ok (.putfield 55, 3) := by decide +kernel
theorem dX0_begin_32 : decode cX0_begin 32 = .ok (.aload_n 0, 1) := by decide +kernel
theorem dX0_begin_33 : decode cX0_begin 33 = .ok (.iconst 0, 1) := by decide +kernel
theorem dX0_begin_34 : decode cX0_begin 34 = .ok (.putfield 58, 3) := by decide +kernel
theorem dX0_begin_37 : decode cX0_begin 37 = .ok (.aload_n 0, 1) := by decide +kernel
theorem dX0_begin_38 : decode cX0_begin 38 = .ok (.iconst 0, 1) := by decide +kernel
theorem dX0_begin_39 : decode cX0_begin 39 = .ok (.putfield 61, 3) := by decide +kernel
theorem dX0_begin_42 : decode cX0_begin 42 = .ok (.aload_n 0, 1) := by decide +kernel
theorem dX0_begin_43 : decode cX0_begin 43 = .ok (.iconst 0, 1) := by decide +kernel
theorem dX0_begin_44 : decode cX0_begin 44 = .ok (.putfield 64, 3) := by decide +kernel
theorem dX0_begin_47 : decode cX0_begin 47 = .ok (.aload_n 0, 1) := by decide +kernel
theorem dX0_begin_48 : decode cX0_begin 48 = .ok (.iconst 0, 1) := by decide +kernel
theorem dX0_begin_49 : decode cX0_begin 49 = .ok (.putfield 67, 3) := by decide +kernel
theorem dX0_begin_52 : decode cX0_begin 52 = .ok (.aload_n 0, 1) := by decide +kernel
theorem dX0_begin_53 : decode cX0_begin 53 = .ok (.iconst 0, 1) := by decide +kernel
theorem dX0_begin_54 : decode cX0_begin 54 = .ok (.putfield 70, 3) := by decide +kernel
theorem dX0_begin_57 : decode cX0_begin 57 = .ok (.aload_n 0, 1) := by decide +kernel
theorem dX0_begin_58 : decode cX0_begin 58 = .ok (.getfield 29, 3) := by decide +kernel
theorem dX0_begin_61 : decode cX0_begin 61 = .ok (.iconst 0, 1) := by decide +kernel
theorem dX0_begin_62 : decode cX0_begin 62 = .ok (.invokevirtual 73, 3) := by decide +kernel
theorem dX0_begin_65 : decode cX0_begin 65 = .ok (.aload_n 0, 1) := by decide +kernel
theorem dX0_begin_66 : decode cX0_begin 66 = .ok (.getfield 33, 3) := by decide +kernel
theorem dX0_begin_69 : decode cX0_begin 69 = .ok (.iconst (-1), 1) := by decide +kernel
theorem dX0_begin_70 : decode cX0_begin 70 = .ok (.invokevirtual 73, 3) := by decide +kernel
theorem dX0_begin_73 : decode cX0_begin 73 = .ok (.return_, 1) := by decide +kernel
theorem dX0_copyFrom_0 : decode cX0_copyFrom 0 = .ok (.aload_n 0, 1) := by decide +kernel
theorem dX0_copyFrom_1 : decode cX0_copyFrom 1 = .ok (.getfield 16, 3) := by decide +kernel
theorem dX0_copyFrom_4 : decode cX0_copyFrom 4 = .ok (.aload_n 1, 1) := by decide +kernel
theorem dX0_copyFrom_5 : decode cX0_copyFrom 5 = .ok (.getfield 16, 3) := by decide +kernel
theorem dX0_copyFrom_8 : decode cX0_copyFrom 8 = .ok (.invokevirtual 77, 3) := by decide +kernel
theorem dX0_copyFrom_11 : decode cX0_copyFrom 11 = .ok (.aload_n 0, 1) := by decide +kernel
theorem dX0_copyFrom_12 : decode cX0_copyFrom 12 = .ok (.getfield 20, 3) := by decide +kernel
theorem dX0_copyFrom_15 : decode cX0_copyFrom 15 = .ok (.aload_n 1, 1) := by decide +kernel
theorem dX0_copyFrom_16 : decode cX0_copyFrom 16 = .ok (.getfield 20, 3) := by decide +kernel
theorem dX0_copyFrom_19 : decode cX0_copyFrom 19 = .ok (.invokevirtual 77, 3) := by decide +kernel
theorem dX0_copyFrom_22 : decode cX0_copyFrom 22 = .ok (.aload_n 0, 1) := by decide +kernel
theorem dX0_copyFrom_23 : decode cX0_copyFrom 23 = .ok (.getfield 23, 3) := by decide +kernel
theorem dX0_copyFrom_26 : decode cX0_copyFrom 26 = .ok (.aload_n 1, 1) := by decide +kernel
theorem dX0_copyFrom_27 : decode cX0_copyFrom 27 = .ok (.getfield 23, 3) := by decide +kernel
theorem dX0_copyFrom_30 : decode cX0_copyFrom 30 = .ok (.invokevirtual 77, 3) := by decide +kernel
theorem dX0_copyFrom_33 : decode cX0_copyFrom 33 = .ok (.aload_n 0, 1) := by decide +kernel
theorem dX0_copyFrom_34 : decode cX0_copyFrom 34 = .ok (.getfield 29, 3) := by decide +kernel
theorem dX0_copyFrom_37 : decode cX0_copyFrom 37 = .ok (.aload_n 1, 1) := by decide +kernel
theorem dX0_copyFrom_38 : decode cX0_copyFrom 38 = .ok (.getfield 29, 3) := by decide +kernel
theorem dX0_copyFrom_41 : decode cX0_copyFrom 41 = .ok (.invokevirtual 81, 3) := by decide +kernel
theorem dX0_copyFrom_44 : decode cX0_copyFrom 44 = .ok (.aload_n 0, 1) := by decide +kernel
theorem dX0_copyFrom_45 : decode cX0_copyFrom 45 = .ok (.getfield 33, 3) := by decide +kernel
theorem dX0_copyFrom_48 : decode cX0_copyFrom 48 = .ok (.aload_n 1, 1) := by decide +kernel
theorem dX0_copyFrom_49 : decode cX0_copyFrom 49 = .ok (.getfield 33, 3) := by decide +kernel
theorem dX0_copyFrom_52 : decode cX0_copyFrom 52 = .ok (.invokevirtual 81, 3) := by decide +kernel
theorem dX0_copyFrom_55 : decode cX0_copyFrom 55 = .ok (.aload_n 0, 1) := by decide +kernel
theorem dX0_copyFrom_56 : decode cX0_copyFrom 56 = .ok (.getfield 36, 3) := by decide +kernel
theorem dX0_copyFrom_59 : decode cX0_copyFrom 59 = .ok (.aload_n 1, 1) := by decide +kernel
theorem dX0_copyFrom_60 : decode cX0_copyFrom 60 = .ok (.getfield 36, 3) := by decide +kernel
theorem dX0_copyFrom_63 : decode cX0_copyFrom 63 = .ok (.invokevirtual 81, 3) := by decide +kernel
theorem dX0_copyFrom_66 : decode cX0_copyFrom 66 = .ok (.aload_n 0, 1) := by decide +kernel
theorem dX0_copyFrom_67 : decode cX0_copyFrom 67 = .ok (.aload_n 1, 1) := by decide +kernel
theorem dX0_copyFrom_68 : decode cX0_copyFrom 68 = .ok (.getfield 39, 3) := by decide +kernel
theorem dX0_copyFrom_71 : decode cX0_copyFrom 71 = .ok (.putfield 39, 3) := by decide +kernel
theorem dX0_copyFrom_74 : decode cX0_copyFrom 74 = .ok (.aload_n 0, 1) := by decide +kernel
theorem dX0_copyFrom_75 : decode cX0_copyFrom 75 = .ok (.aload_n 1, 1) := by decide +kernel
theorem dX0_copyFrom_76 : decode cX0_copyFrom 76 = .ok (.getfield 43, 3) := by decide +kernel
theorem dX0_copyFrom_79 : decode cX0_copyFrom 79 = .ok (.putfield 43, 3) := by decide +kernel
theorem dX0_copyFrom_82 : decode cX0_copyFrom 82 = .ok (.aload_n 0, 1) := by decide +kernel
theorem dX0_copyFrom_83 : decode cX0_copyFrom 83 = .ok (.aload_n 1, 1) := by decide +kernel
theorem dX0_copyFrom_84 : decode cX0_copyFrom 84 = .ok (.getfield 46, 3) := by decide +kernel
theorem dX0_copyFrom_87 : decode cX0_copyFrom 87 = .ok (.putfield 46, 3) := by decide +kernel
theorem dX0_copyFrom_90 : decode cX0_copyFrom 90 = .ok (.aload_n 0, 1) := by decide +kernel
theorem dX0_copyFrom_91 : decode cX0_copyFrom 91 = .ok (.aload_n 1, 1) := by decide +kernel
theorem dX0_copyFrom_92 : decode cX0_copyFrom 92 = .ok (.getfield 49, 3) := by decide +kernel
theorem dX0_copyFrom_95 : decode cX0_copyFrom 95 = .ok (.putfield 49, 3) := by decide +kernel
theorem dX0_copyFrom_98 : decode cX0_copyFrom 98 = .ok (.aload_n 0, 1) := by decide +kernel
theorem dX0_copyFrom_99 : decode cX0_copyFrom 99 = .ok (.aload_n 1, 1) := by decide +kernel
theorem dX0_copyFrom_100 : decode cX0_copyFrom 100 = .ok (.getfield 52, 3) := by decide +kernel
theorem dX0_copyFrom_103 : decode cX0_copyFrom 103 = .ok (.putfield 52, 3) := by decide +kernel
theorem dX0_copyFrom_106 : decode cX0_copyFrom 106 = .ok (.aload_n 0, 1) := by decide +kernel
theorem dX0_copyFrom_107 : decode cX0_copyFrom 107 = .ok (.aload_n 1, 1) := by decide +kernel
theorem dX0_copyFrom_108 : decode cX0_copyFrom 108 = .ok (.getfield 55, 3) := by decide +kernel
theorem dX0_copyFrom_111 : decode cX0_copyFrom 111 = .ok (.putfield 55, 3) := by decide +kernel
theorem dX0_copyFrom_114 : decode cX0_copyFrom 114 = .ok (.aload_n 0, 1) := by decide +kernel
theorem dX0_copyFrom_115 : decode cX0_copyFrom 115 = .ok (.aload_n 1, 1) := by decide +kernel
theorem dX0_copyFrom_116 : decode cX0_copyFrom 116 = .ok (.getfield 58, 3) := by decide +kernel
theorem dX0_copyFrom_119 : decode cX0_copyFrom 119 = .ok (.putfield 58, 3) := by decide +kernel
theorem dX0_copyFrom_122 : decode cX0_copyFrom 122 = .ok (.aload_n 0, 1) := by decide +kernel
theorem dX0_copyFrom_123 : decode cX0_copyFrom 123 = .ok (.aload_n 1, 1) := by decide +kernel
theorem dX0_copyFrom_124 : decode cX0_copyFrom 124 = .ok (.getfield 61, 3) := by decide +kernel
theorem dX0_copyFrom_127 : decode cX0_copyFrom 127 = .ok (.putfield 61, 3) := by decide +kernel
theorem dX0_copyFrom_130 : decode cX0_copyFrom 130 = .ok (.aload_n 0, 1) := by decide +kernel
theorem dX0_copyFrom_131 : decode cX0_copyFrom 131 = .ok (.aload_n 1, 1) := by decide +kernel
theorem dX0_copyFrom_132 : decode cX0_copyFrom 132 = .ok (.getfield 64, 3) := by decide +kernel
theorem dX0_copyFrom_135 : decode cX0_copyFrom 135 = .ok (.putfield 64, 3) := by decide +kernel
theorem dX0_copyFrom_138 : decode cX0_copyFrom 138 = .ok (.aload_n 0, 1) := by decide +kernel
theorem dX0_copyFrom_139 : decode cX0_copyFrom 139 = .ok (.aload_n 1, 1) := by decide +kernel
theorem dX0_copyFrom_140 : decode cX0_copyFrom 140 = .ok (.getfield 67, 3) := by decide +kernel
theorem dX0_copyFrom_143 : decode cX0_copyFrom 143 = .ok (.putfield 67, 3) := by decide +kernel
theorem dX0_copyFrom_146 : decode cX0_copyFrom 146 = .ok (.aload_n 0, 1) := by decide +kernel
theorem dX0_copyFrom_147 : decode cX0_copyFrom 147 = .ok (.aload_n 1, 1) := by decide +kernel
theorem dX0_copyFrom_148 : decode cX0_copyFrom 148 = .ok (.getfield 70, 3) := by decide +kernel
theorem dX0_copyFrom_151 : decode cX0_copyFrom 151 = .ok (.putfield 70, 3) := by decide +kernel
theorem dX0_copyFrom_154 : decode cX0_copyFrom 154 = .ok (.return_, 1) := by decide +kernel
theorem dX0_cellCount_0 : decode cX0_cellCount 0 = .ok (.aload_n 0, 1) := by decide +kernel
theorem dX0_cellCount_1 : decode cX0_cellCount 1 = .ok (.getfield 39, 3) := by decide +kernel
theorem dX0_cellCount_4 : decode cX0_cellCount 4 = .ok (.aload_n 0, 1) := by decide +kernel
theorem dX0_cellCount_5 : decode cX0_cellCount 5 = .ok (.getfield 43, 3) := by decide +kernel
theorem dX0_cellCount_8 : decode cX0_cellCount 8 = .ok (.imul, 1) := by decide +kernel
theorem dX0_cellCount_9 : decode cX0_cellCount 9 = .ok (.ireturn, 1) := by decide +kernel
theorem dX0_cellAt_0 : decode cX0_cellAt 0 = .ok (.iload_n 1, 1) := by decide +kernel
theorem dX0_cellAt_1 : decode cX0_cellAt 1 = .ok (.ifCond .lt 34, 3) := by decide +kernel
theorem dX0_cellAt_4 : decode cX0_cellAt 4 = .ok (.iload_n 1, 1) := by decide +kernel
theorem dX0_cellAt_5 : decode cX0_cellAt 5 = .ok (.aload_n 0, 1) := by decide +kernel
theorem dX0_cellAt_6 : decode cX0_cellAt 6 = .ok (.getfield 39, 3) := by decide +kernel
theorem dX0_cellAt_9 : decode cX0_cellAt 9 = .ok (.if_icmp .ge 26, 3) := by decide +kernel
theorem dX0_cellAt_12 : decode cX0_cellAt 12 = .ok (.iload_n 2, 1) := by decide +kernel
theorem dX0_cellAt_13 : decode cX0_cellAt 13 = .ok (.ifCond .lt 22, 3) := by decide +kernel
theorem dX0_cellAt_16 : decode cX0_cellAt 16 = .ok (.iload_n 2, 1) := by decide +kernel
theorem dX0_cellAt_17 : decode cX0_cellAt 17 = .ok (.aload_n 0, 1) := by decide +kernel
theorem dX0_cellAt_18 : decode cX0_cellAt 18 = .ok (.getfield 43, 3) := by decide +kernel
theorem dX0_cellAt_21 : decode cX0_cellAt 21 = .ok (.if_icmp .ge 14, 3) := by decide +kernel
theorem dX0_cellAt_24 : decode cX0_cellAt 24 = .ok (.aload_n 0, 1) := by decide +kernel
theorem dX0_cellAt_25 : decode cX0_cellAt 25 = .ok (.getfield 39, 3) := by decide +kernel
theorem dX0_cellAt_28 : decode cX0_cellAt 28 = .ok (.iload_n 2, 1) := by decide +kernel
theorem dX0_cellAt_29 : decode cX0_cellAt 29 = .ok (.imul, 1) := by decide +kernel
theorem dX0_cellAt_30 : decode cX0_cellAt 30 = .ok (.iload_n 1, 1) := by decide +kernel
theorem dX0_cellAt_31 : decode cX0_cellAt 31 = .ok (.iadd, 1) := by decide +kernel
theorem dX0_cellAt_32 : decode cX0_cellAt 32 = .ok (.goto 4, 3) := by decide +kernel
theorem dX0_cellAt_35 : decode cX0_cellAt 35 = .ok (.iconst (-1), 1) := by decide +kernel
theorem dX0_cellAt_36 : decode cX0_cellAt 36 = .ok (.ireturn, 1) := by decide +kernel
theorem dX0_columnOf_0 : decode cX0_columnOf 0 = .ok (.aload_n 0, 1) := by decide +kernel
theorem dX0_columnOf_1 : decode cX0_columnOf 1 = .ok (.getfield 39, 3) := by decide +kernel
theorem dX0_columnOf_4 : decode cX0_columnOf 4 = .ok (.ifCond .le 12, 3) := by decide +kernel
theorem dX0_columnOf_7 : decode cX0_columnOf 7 = .ok (.iload_n 1, 1) := by decide +kernel
theorem dX0_columnOf_8 : decode cX0_columnOf 8 = .ok (.aload_n 0, 1) := by decide +kernel
theorem dX0_columnOf_9 : decode cX0_columnOf 9 = .ok (.getfield 39, 3) := by decide +kernel
theorem dX0_columnOf_12 : decode cX0_columnOf 12 = .ok (.irem, 1) := by decide +kernel
theorem dX0_columnOf_13 : decode cX0_columnOf 13 = .ok (.goto 4, 3) := by decide +kernel
theorem dX0_columnOf_16 : decode cX0_columnOf 16 = .ok (.iconst 0, 1) := by decide +kernel
theorem dX0_columnOf_17 : decode cX0_columnOf 17 = .ok (.ireturn, 1) := by decide +kernel
theorem dX0_rowOf_0 : decode cX0_rowOf 0 = .ok (.aload_n 0, 1) := by decide +kernel
theorem dX0_rowOf_1 : decode cX0_rowOf 1 = .ok (.getfield 39, 3) := by decide +kernel
theorem dX0_rowOf_4 : decode cX0_rowOf 4 = .ok (.ifCond .le 12, 3) := by decide +kernel
theorem dX0_rowOf_7 : decode cX0_rowOf 7 = .ok (.iload_n 1, 1) := by decide +kernel
theorem dX0_rowOf_8 : decode cX0_rowOf 8 = .ok (.aload_n 0, 1) := by decide +kernel
theorem dX0_rowOf_9 : decode cX0_rowOf 9 = .ok (.getfield 39, 3) := by decide +kernel
theorem dX0_rowOf_12 : decode cX0_rowOf 12 = .ok (.idiv, 1) := by decide +kernel
theorem dX0_rowOf_13 : decode cX0_rowOf 13 = .ok (.goto 4, 3) := by decide +kernel
theorem dX0_rowOf_16 : decode cX0_rowOf 16 = .ok (.iconst 0, 1) := by decide +kernel
theorem dX0_rowOf_17 : decode cX0_rowOf 17 = .ok (.ireturn, 1) := by decide +kernel
theorem dX0_cellOf_0 : decode cX0_cellOf 0 = .ok (.aload_n 0, 1) := by decide +kernel
theorem dX0_cellOf_1 : decode cX0_cellOf 1 = .ok (.aload_n 0, 1) := by decide +kernel
theorem dX0_cellOf_2 : decode cX0_cellOf 2 = .ok (.getfield 16, 3) := by decide +kernel
theorem dX0_cellOf_5 : decode cX0_cellOf 5 = .ok (.iload_n 1, 1) := by decide +kernel
theorem dX0_cellOf_6 : decode cX0_cellOf 6 = .ok (.iconst 0, 1) := by decide +kernel
theorem dX0_cellOf_7 : decode cX0_cellOf 7 = .ok (.invokevirtual 84, 3) := by decide +kernel
theorem dX0_cellOf_10 : decode cX0_cellOf 10 = .ok (.aload_n 0, 1) := by decide +kernel
theorem dX0_cellOf_11 : decode cX0_cellOf 11 = .ok (.getfield 16, 3) := by decide +kernel
theorem dX0_cellOf_14 : decode cX0_cellOf 14 = .ok (.iload_n 1, 1) := by decide +kernel
theorem dX0_cellOf_15 : decode cX0_cellOf 15 = .ok (.iconst 1, 1) := by decide +kernel
theorem dX0_cellOf_16 : decode cX0_cellOf 16 = .ok (.invokevirtual 84, 3) := by decide +kernel
theorem dX0_cellOf_19 : decode cX0_cellOf 19 = .ok (.invokevirtual 88, 3) := by decide +kernel
theorem dX0_cellOf_22 : decode cX0_cellOf 22 = .ok (.ireturn, 1) := by decide +kernel
theorem dX0_isAfloat_0 : decode cX0_isAfloat 0 = .ok (.aload_n 0, 1) := by decide +kernel
theorem dX0_isAfloat_1 : decode cX0_isAfloat 1 = .ok (.getfield 16, 3) := by decide +kernel
theorem dX0_isAfloat_4 : decode cX0_isAfloat 4 = .ok (.iload_n 1, 1) := by decide +kernel
theorem dX0_isAfloat_5 : decode cX0_isAfloat 5 = .ok (.bipush 7, 2) := by decide +kernel
theorem dX0_isAfloat_7 : decode cX0_isAfloat 7 = .ok (.invokevirtual 84, 3) := by decide +kernel
theorem dX0_isAfloat_10 : decode cX0_isAfloat 10 = .ok (.ifCond .ne 7, 3) := by decide +kernel
theorem dX0_isAfloat_13 : decode cX0_isAfloat 13 = .ok (.iconst 1, 1) := by decide +kernel
theorem dX0_isAfloat_14 : decode cX0_isAfloat 14 = .ok (.goto 4, 3) := by decide +kernel
theorem dX0_isAfloat_17 : decode cX0_isAfloat 17 = .ok (.iconst 0, 1) := by decide +kernel
theorem dX0_isAfloat_18 : decode cX0_isAfloat 18 = .ok (.ireturn, 1) := by decide +kernel
theorem dX0_hasOtherBoat_0 : decode cX0_hasOtherBoat 0 = .ok (.aload_n 0, 1) := by decide +kernel
theorem dX0_hasOtherBoat_1 : decode cX0_hasOtherBoat 1 = .ok (.getfield 33, 3) := by decide +kernel
theorem dX0_hasOtherBoat_4 : decode cX0_hasOtherBoat 4 = .ok (.iload_n 1, 1) := by decide +kernel
theorem dX0_hasOtherBoat_5 : decode cX0_hasOtherBoat 5 = .ok (.invokevirtual 91, 3) := by decide +kernel
theorem dX0_hasOtherBoat_8 : decode cX0_hasOtherBoat 8 = .ok (.istore_n 3, 1) := by decide +kernel
theorem dX0_hasOtherBoat_9 : decode cX0_hasOtherBoat 9 = .ok (.iload_n 3, 1) := by decide +kernel
theorem dX0_hasOtherBoat_10 : decode cX0_hasOtherBoat 10 = .ok (.iconst (-1), 1) := by decide +kernel
theorem dX0_hasOtherBoat_11 : decode cX0_hasOtherBoat 11 = .ok (.if_icmp .eq 12, 3) := by decide +kernel
theorem dX0_hasOtherBoat_14 : decode cX0_hasOtherBoat 14 = .ok (.iload_n 3, 1) := by decide +kernel
theorem dX0_hasOtherBoat_15 : decode cX0_hasOtherBoat 15 = .ok (.iload_n 2, 1) := by decide +kernel
theorem dX0_hasOtherBoat_16 : decode cX0_hasOtherBoat 16 = .ok (.if_icmp .eq 7, 3) := by decide +kernel
theorem dX0_hasOtherBoat_19 : decode cX0_hasOtherBoat 19 = .ok (.iconst 1, 1) := by decide +kernel
theorem dX0_hasOtherBoat_20 : decode cX0_hasOtherBoat 20 = .ok (.goto 4, 3) := by decide +kernel
theorem dX0_hasOtherBoat_23 : decode cX0_hasOtherBoat 23 = .ok (.iconst 0, 1) := by decide +kernel
theorem dX0_hasOtherBoat_24 : decode cX0_hasOtherBoat 24 = .ok (.ireturn, 1) := by decide +kernel
theorem dX0_reserve_0 : decode cX0_reserve 0 = .ok (.aload_n 0, 1) := by decide +kernel
theorem dX0_reserve_1 : decode cX0_reserve 1 = .ok (.getfield 16, 3) := by decide +kernel
theorem dX0_reserve_4 : decode cX0_reserve 4 = .ok (.iload_n 1, 1) := by decide +kernel
theorem dX0_reserve_5 : decode cX0_reserve 5 = .ok (.iconst 3, 1) := by decide +kernel
theorem dX0_reserve_6 : decode cX0_reserve 6 = .ok (.invokevirtual 84, 3) := by decide +kernel
theorem dX0_reserve_9 : decode cX0_reserve 9 = .ok (.aload_n 0, 1) := by decide +kernel
theorem dX0_reserve_10 : decode cX0_reserve 10 = .ok (.getfield 16, 3) := by decide +kernel
theorem dX0_reserve_13 : decode cX0_reserve 13 = .ok (.iload_n 1, 1) := by decide +kernel
theorem dX0_reserve_14 : decode cX0_reserve 14 = .ok (.iconst 4, 1) := by decide +kernel
theorem dX0_reserve_15 : decode cX0_reserve 15 = .ok (.invokevirtual 84, 3) := by decide +kernel
theorem dX0_reserve_18 : decode cX0_reserve 18 = .ok (.isub, 1) := by decide +kernel
theorem dX0_reserve_19 : decode cX0_reserve 19 = .ok (.ireturn, 1) := by decide +kernel
theorem dX0_drainWorks_0 : decode cX0_drainWorks 0 = .ok (.aload_n 0, 1) := by decide +kernel
theorem dX0_drainWorks_1 : decode cX0_drainWorks 1 = .ok (.getfield 20, 3) := by decide +kernel
theorem dX0_drainWorks_4 : decode cX0_drainWorks 4 = .ok (.iload_n 1, 1) := by decide +kernel
theorem dX0_drainWorks_5 : decode cX0_drainWorks 5 = .ok (.iconst 3, 1) := by decide +kernel
theorem dX0_drainWorks_6 : decode cX0_drainWorks 6 = .ok (.invokevirtual 84, 3) := by decide +kernel
theorem dX0_drainWorks_9 : decode cX0_drainWorks 9 = .ok (.ifCond .gt 5, 3) := by decide +kernel
theorem dX0_drainWorks_12 : decode cX0_drainWorks 12 = .ok (.iconst 0, 1) := by decide +kernel
theorem dX0_drainWorks_13 : decode cX0_drainWorks 13 = .ok (.ireturn, 1) := by decide +kernel
theorem dX0_drainWorks_14 : decode cX0_drainWorks 14 = .ok (.aload_n 0, 1) := by decide +kernel
theorem dX0_drainWorks_15 : decode cX0_drainWorks 15 = .ok (.getfield 33, 3) := by decide +kernel
theorem dX0_drainWorks_18 : decode cX0_drainWorks 18 = .ok (.aload_n 0, 1) := by decide +kernel
theorem dX0_drainWorks_19 : decode cX0_drainWorks 19 = .ok (.getfield 39, 3) := by decide +kernel
theorem dX0_drainWorks_22 : decode cX0_drainWorks 22 = .ok (.aload_n 0, 1) := by decide +kernel
theorem dX0_drainWorks_23 : decode cX0_drainWorks 23 = .ok (.getfield 20, 3) := by decide +kernel
theorem dX0_drainWorks_26 : decode cX0_drainWorks 26 = .ok (.iload_n 1, 1) := by decide +kernel
theorem dX0_drainWorks_27 : decode cX0_drainWorks 27 = .ok (.iconst 1, 1) := by decide +kernel
theorem dX0_drainWorks_28 : decode cX0_drainWorks 28 = .ok (.invokevirtual 84, 3) := by decide +kernel
theorem dX0_drainWorks_31 : decode cX0_drainWorks 31 = .ok (.imul, 1) := by decide +kernel
theorem dX0_drainWorks_32 : decode cX0_drainWorks 32 = .ok (.aload_n 0, 1) := by decide +kernel
theorem dX0_drainWorks_33 : decode cX0_drainWorks 33 = .ok (.getfield 20, 3) := by decide +kernel
theorem dX0_drainWorks_36 : decode cX0_drainWorks 36 = .ok (.iload_n 1, 1) := by decide +kernel
theorem dX0_drainWorks_37 : decode cX0_drainWorks 37 = .ok (.iconst 0, 1) := by decide +kernel
theorem dX0_drainWorks_38 : decode cX0_drainWorks 38 = .ok (.invokevirtual 84, 3) := by decide +kernel
theorem dX0_drainWorks_41 : decode cX0_drainWorks 41 = .ok (.iadd, 1) := by decide +kernel
theorem dX0_drainWorks_42 : decode cX0_drainWorks 42 = .ok (.invokevirtual 91, 3) := by decide +kernel
theorem dX0_drainWorks_45 : decode cX0_drainWorks 45 = .ok (.istore_n 2, 1) := by decide +kernel
theorem dX0_drainWorks_46 : decode cX0_drainWorks 46 = .ok (.iload_n 2, 1) := by decide +kernel
theorem dX0_drainWorks_47 : decode cX0_drainWorks 47 = .ok (.iconst (-1), 1) := by decide +kernel
theorem dX0_drainWorks_48 : decode cX0_drainWorks 48 = .ok (.if_icmp .eq 24, 3) := by decide +kernel
theorem dX0_drainWorks_51 : decode cX0_drainWorks 51 = .ok (.aload_n 0, 1) := by decide +kernel
theorem dX0_drainWorks_52 : decode cX0_drainWorks 52 = .ok (.getfield 16, 3) := by decide +kernel
theorem dX0_drainWorks_55 : decode cX0_drainWorks 55 = .ok (.iload_n 2, 1) := by decide +kernel
theorem dX0_drainWorks_56 : decode cX0_drainWorks 56 = .ok (.iconst 2, 1) := by decide +kernel
theorem dX0_drainWorks_57 : decode cX0_drainWorks 57 = .ok (.invokevirtual 84, 3) := by decide +kernel
theorem dX0_drainWorks_60 : decode cX0_drainWorks 60 = .ok (.aload_n 0, 1) := by decide +kernel
theorem dX0_drainWorks_61 : decode cX0_drainWorks 61 = .ok (.getfield 20, 3) := by decide +kernel
theorem dX0_drainWorks_64 : decode cX0_drainWorks 64 = .ok (.iload_n 1, 1) := by decide +kernel
theorem dX0_drainWorks_65 : decode cX0_drainWorks 65 = .ok (.iconst 2, 1) := by decide +kernel
theorem dX0_drainWorks_66 : decode cX0_drainWorks 66 = .ok (.invokevirtual 84, 3) := by decide +kernel
theorem dX0_drainWorks_69 : decode cX0_drainWorks 69 = .ok (.if_icmp .gt 7, 3) := by decide +kernel
theorem dX0_drainWorks_72 : decode cX0_drainWorks 72 = .ok (.iconst 1, 1) := by decide +kernel
theorem dX0_drainWorks_73 : decode cX0_drainWorks 73 = .ok (.goto 4, 3) := by decide +kernel
theorem dX0_drainWorks_76 : decode cX0_drainWorks 76 = .ok (.iconst 0, 1) := by decide +kernel
theorem dX0_drainWorks_77 : decode cX0_drainWorks 77 = .ok (.ireturn, 1) := by decide +kernel
theorem dX0_wouldDrain_0 : decode cX0_wouldDrain 0 = .ok (.aload_n 0, 1) := by decide +kernel
theorem dX0_wouldDrain_1 : decode cX0_wouldDrain 1 = .ok (.iload_n 1, 1) := by decide +kernel
theorem dX0_wouldDrain_2 : decode cX0_wouldDrain 2 = .ok (.invokevirtual 94, 3) := by decide +kernel
theorem dX0_wouldDrain_5 : decode cX0_wouldDrain 5 = .ok (.istore_n 3, 1) := by decide +kernel
theorem dX0_wouldDrain_6 : decode cX0_wouldDrain 6 = .ok (.iload_n 3, 1) := by decide +kernel
theorem dX0_wouldDrain_7 : decode cX0_wouldDrain 7 = .ok (.iconst (-1), 1) := by decide +kernel
theorem dX0_wouldDrain_8 : decode cX0_wouldDrain 8 = .ok (.if_icmp .eq 40, 3) := by decide +kernel
theorem dX0_wouldDrain_11 : decode cX0_wouldDrain 11 = .ok (.aload_n 0, 1) := by decide +kernel
theorem dX0_wouldDrain_12 : decode cX0_wouldDrain 12 = .ok (.getfield 20, 3) := by decide +kernel
theorem dX0_wouldDrain_15 : decode cX0_wouldDrain 15 = .ok (.iload_n 3, 1) := by decide +kernel
theorem dX0_wouldDrain_16 : decode cX0_wouldDrain 16 = .ok (.iconst 3, 1) := by decide +kernel
theorem dX0_wouldDrain_17 : decode cX0_wouldDrain 17 = .ok (.invokevirtual 84, 3) := by decide +kernel
theorem dX0_wouldDrain_20 : decode cX0_wouldDrain 20 = .ok (.ifCond .le 28, 3) := by decide +kernel
theorem dX0_wouldDrain_23 : decode cX0_wouldDrain 23 = .ok (.aload_n 0, 1) := by decide +kernel
theorem dX0_wouldDrain_24 : decode cX0_wouldDrain 24 = .ok (.getfield 20, 3) := by decide +kernel
theorem dX0_wouldDrain_27 : decode cX0_wouldDrain 27 = .ok (.iload_n 3, 1) := by decide +kernel
theorem dX0_wouldDrain_28 : decode cX0_wouldDrain 28 = .ok (.iconst 2, 1) := by decide +kernel
theorem dX0_wouldDrain_29 : decode cX0_wouldDrain 29 = .ok (.invokevirtual 84, 3) := by decide +kernel
theorem dX0_wouldDrain_32 : decode cX0_wouldDrain 32 = .ok (.aload_n 0, 1) := by decide +kernel
theorem dX0_wouldDrain_33 : decode cX0_wouldDrain 33 = .ok (.getfield 16, 3) := by decide +kernel
theorem dX0_wouldDrain_36 : decode cX0_wouldDrain 36 = .ok (.iload_n 2, 1) := by decide +kernel
theorem dX0_wouldDrain_37 : decode cX0_wouldDrain 37 = .ok (.iconst 2, 1) := by decide +kernel
theorem dX0_wouldDrain_38 : decode cX0_wouldDrain 38 = .ok (.invokevirtual 84, 3) := by decide +kernel
theorem dX0_wouldDrain_41 : decode cX0_wouldDrain 41 = .ok (.if_icmp .lt 7, 3) := by decide +kernel
theorem dX0_wouldDrain_44 : decode cX0_wouldDrain 44 = .ok (.iconst 1, 1) := by decide +kernel
theorem dX0_wouldDrain_45 : decode cX0_wouldDrain 45 = .ok (.goto 4, 3) := by decide +kernel
theorem dX0_wouldDrain_48 : decode cX0_wouldDrain 48 = .ok (.iconst 0, 1) := by decide +kernel
theorem dX0_wouldDrain_49 : decode cX0_wouldDrain 49 = .ok (.ireturn, 1) := by decide +kernel
theorem dX0_drainIn_0 : decode cX0_drainIn 0 = .ok (.iconst 0, 1) := by decide +kernel
theorem dX0_drainIn_1 : decode cX0_drainIn 1 = .ok (.istore_n 2, 1) := by decide +kernel
theorem dX0_drainIn_2 : decode cX0_drainIn 2 = .ok (.iload_n 2, 1) := by decide +kernel
theorem dX0_drainIn_3 : decode cX0_drainIn 3 = .ok (.aload_n 0, 1) := by decide +kernel
theorem dX0_drainIn_4 : decode cX0_drainIn 4 = .ok (.getfield 64, 3) := by decide +kernel
theorem dX0_drainIn_7 : decode cX0_drainIn 7 = .ok (.if_icmp .ge 39, 3) := by decide +kernel
theorem dX0_drainIn_10 : decode cX0_drainIn 10 = .ok (.aload_n 0, 1) := by decide +kernel
theorem dX0_drainIn_11 : decode cX0_drainIn 11 = .ok (.getfield 39, 3) := by decide +kernel
theorem dX0_drainIn_14 : decode cX0_drainIn 14 = .ok (.aload_n 0, 1) := by decide +kernel
theorem dX0_drainIn_15 : decode cX0_drainIn 15 = .ok (.getfield 20, 3) := by decide +kernel
theorem dX0_drainIn_18 : decode cX0_drainIn 18 = .ok (.iload_n 2, 1) := by decide +kernel
theorem dX0_drainIn_19 : decode cX0_drainIn 19 = .ok (.iconst 1, 1) := by decide +kernel
theorem dX0_drainIn_20 : decode cX0_drainIn 20 = .ok (.invokevirtual 84, 3) := by decide +kernel
theorem dX0_drainIn_23 : decode cX0_drainIn 23 = .ok (.imul, 1) := by decide +kernel
theorem dX0_drainIn_24 : decode cX0_drainIn 24 = .ok (.aload_n 0, 1) := by decide +kernel
theorem dX0_drainIn_25 : decode cX0_drainIn 25 = .ok (.getfield 20, 3) := by decide +kernel
theorem dX0_drainIn_28 : decode cX0_drainIn 28 = .ok (.iload_n 2, 1) := by decide +kernel
theorem dX0_drainIn_29 : decode cX0_drainIn 29 = .ok (.iconst 0, 1) := by decide +kernel
theorem dX0_drainIn_30 : decode cX0_drainIn 30 = .ok (.invokevirtual 84, 3) := by decide +kernel
theorem dX0_drainIn_33 : decode cX0_drainIn 33 = .ok (.iadd, 1) := by decide +kernel
theorem dX0_drainIn_34 : decode cX0_drainIn 34 = .ok (.iload_n 1, 1) := by decide +kernel
theorem dX0_drainIn_35 : decode cX0_drainIn 35 = .ok (.if_icmp .ne 5, 3) := by decide +kernel
theorem dX0_drainIn_38 : decode cX0_drainIn 38 = .ok (.iload_n 2, 1) := by decide +kernel
theorem dX0_drainIn_39 : decode cX0_drainIn 39 = .ok (.ireturn, 1) := by decide +kernel
theorem dX0_drainIn_40 : decode cX0_drainIn 40 = .ok (.iinc 2 1, 3) := by decide +kernel
theorem dX0_drainIn_43 : decode cX0_drainIn 43 = .ok (.goto (-41), 3) := by decide +kernel
theorem dX0_drainIn_46 : decode cX0_drainIn 46 = .ok (.iconst (-1), 1) := by decide +kernel
theorem dX0_drainIn_47 : decode cX0_drainIn 47 = .ok (.ireturn, 1) := by decide +kernel
theorem dX0_tapIn_0 : decode cX0_tapIn 0 = .ok (.iconst 0, 1) := by decide +kernel
theorem dX0_tapIn_1 : decode cX0_tapIn 1 = .ok (.istore_n 2, 1) := by decide +kernel
theorem dX0_tapIn_2 : decode cX0_tapIn 2 = .ok (.iload_n 2, 1) := by decide +kernel
theorem dX0_tapIn_3 : decode cX0_tapIn 3 = .ok (.aload_n 0, 1) := by decide +kernel
theorem dX0_tapIn_4 : decode cX0_tapIn 4 = .ok (.getfield 67, 3) := by decide +kernel
theorem dX0_tapIn_7 : decode cX0_tapIn 7 = .ok (.if_icmp .ge 39, 3) := by decide +kernel
theorem dX0_tapIn_10 : decode cX0_tapIn 10 = .ok (.aload_n 0, 1) := by decide +kernel
theorem dX0_tapIn_11 : decode cX0_tapIn 11 = .ok (.getfield 39, 3) := by decide +kernel
theorem dX0_tapIn_14 : decode cX0_tapIn 14 = .ok (.aload_n 0, 1) := by decide +kernel
theorem dX0_tapIn_15 : decode cX0_tapIn 15 = .ok (.getfield 23, 3) := by decide +kernel
theorem dX0_tapIn_18 : decode cX0_tapIn 18 = .ok (.iload_n 2, 1) := by decide +kernel
theorem dX0_tapIn_19 : decode cX0_tapIn 19 = .ok (.iconst 1, 1) := by decide +kernel
theorem dX0_tapIn_20 : decode cX0_tapIn 20 = .ok (.invokevirtual 84, 3) := by decide +kernel
theorem dX0_tapIn_23 : decode cX0_tapIn 23 = .ok (.imul, 1) := by decide +kernel
theorem dX0_tapIn_24 : decode cX0_tapIn 24 = .ok (.aload_n 0, 1) := by decide +kernel
theorem dX0_tapIn_25 : decode cX0_tapIn 25 = .ok (.getfield 23, 3) := by decide +kernel
theorem dX0_tapIn_28 : decode cX0_tapIn 28 = .ok (.iload_n 2, 1) := by decide +kernel
theorem dX0_tapIn_29 : decode cX0_tapIn 29 = .ok (.iconst 0, 1) := by decide +kernel
theorem dX0_tapIn_30 : decode cX0_tapIn 30 = .ok (.invokevirtual 84, 3) := by decide +kernel
theorem dX0_tapIn_33 : decode cX0_tapIn 33 = .ok (.iadd, 1) := by decide +kernel
theorem dX0_tapIn_34 : decode cX0_tapIn 34 = .ok (.iload_n 1, 1) := by decide +kernel
theorem dX0_tapIn_35 : decode cX0_tapIn 35 = .ok (.if_icmp .ne 5, 3) := by decide +kernel
theorem dX0_tapIn_38 : decode cX0_tapIn 38 = .ok (.iload_n 2, 1) := by decide +kernel
theorem dX0_tapIn_39 : decode cX0_tapIn 39 = .ok (.ireturn, 1) := by decide +kernel
theorem dX0_tapIn_40 : decode cX0_tapIn 40 = .ok (.iinc 2 1, 3) := by decide +kernel
theorem dX0_tapIn_43 : decode cX0_tapIn 43 = .ok (.goto (-41), 3) := by decide +kernel
theorem dX0_tapIn_46 : decode cX0_tapIn 46 = .ok (.iconst (-1), 1) := by decide +kernel
theorem dX0_tapIn_47 : decode cX0_tapIn 47 = .ok (.ireturn, 1) := by decide +kernel
theorem dX0_countBoats_0 : decode cX0_countBoats 0 = .ok (.iconst 0, 1) := by decide +kernel
theorem dX0_countBoats_1 : decode cX0_countBoats 1 = .ok (.istore_n 2, 1) := by decide +kernel
theorem dX0_countBoats_2 : decode cX0_countBoats 2 = .ok (.iconst 0, 1) := by decide +kernel
theorem dX0_countBoats_3 : decode cX0_countBoats 3 = .ok (.istore_n 3, 1) := by decide +kernel
theorem dX0_countBoats_4 : decode cX0_countBoats 4 = .ok (.iload_n 3, 1) := by decide +kernel
theorem dX0_countBoats_5 : decode cX0_countBoats 5 = .ok (.aload_n 0, 1) := by decide +kernel
theorem dX0_countBoats_6 : decode cX0_countBoats 6 = .ok (.getfield 61, 3) := by decide +kernel
theorem dX0_countBoats_9 : decode cX0_countBoats 9 = .ok (.if_icmp .ge 26, 3) := by decide +kernel
theorem dX0_countBoats_12 : decode cX0_countBoats 12 = .ok (.aload_n 0, 1) := by decide +kernel
theorem dX0_countBoats_13 : decode cX0_countBoats 13 = .ok (.getfield 16, 3) := by decide +kernel
theorem dX0_countBoats_16 : decode cX0_countBoats 16 = .ok (.iload_n 3, 1) := by decide +kernel
theorem dX0_countBoats_17 : decode cX0_countBoats 17 = .ok (.bipush 7, 2) := by decide +kernel
theorem dX0_countBoats_19 : decode cX0_countBoats 19 = .ok (.invokevirtual 84, 3) := by decide +kernel
theorem dX0_countBoats_22 : decode cX0_countBoats 22 = .ok (.iload_n 1, 1) := by decide +kernel
theorem dX0_countBoats_23 : decode cX0_countBoats 23 = .ok (.if_icmp .ne 6, 3) := by decide +kernel
theorem dX0_countBoats_26 : decode cX0_countBoats 26 = .ok (.iinc 2 1, 3) := by decide +kernel
theorem dX0_countBoats_29 : decode cX0_countBoats 29 = .ok (.iinc 3 1, 3) := by decide +kernel
theorem dX0_countBoats_32 : decode cX0_countBoats 32 = .ok (.goto (-28), 3) := by decide +kernel
theorem dX0_countBoats_35 : decode cX0_countBoats 35 = .ok (.iload_n 2, 1) := by decide +kernel
theorem dX0_countBoats_36 : decode cX0_countBoats 36 = .ok (.ireturn, 1) := by decide +kernel
theorem dX0_countWorkingDrains_0 : decode cX0_countWorkingDrains 0 = .ok (.iconst 0, 1) := by decide +kernel
theorem dX0_countWorkingDrains_1 : decode cX0_countWorkingDrains 1 = .ok (.istore_n 1, 1) := by decide +kernel
theorem dX0_countWorkingDrains_2 : decode cX0_countWorkingDrains 2 = .ok (.iconst 0, 1) := by decide +kernel
theorem dX0_countWorkingDrains_3 : decode cX0_countWorkingDrains 3 = .ok (.istore_n 2, 1) := by decide +kernel
theorem dX0_countWorkingDrains_4 : decode cX0_countWorkingDrains 4 = .ok (.iload_n 2, 1) := by decide +kernel
theorem dX0_countWorkingDrains_5 : decode cX0_countWorkingDrains 5 = .ok (.aload_n 0, 1) := by decide +kernel
theorem dX0_countWorkingDrains_6 : decode cX0_countWorkingDrains 6 = .ok (.getfield 64, 3) := by decide +kernel
theorem dX0_countWorkingDrains_9 : decode cX0_countWorkingDrains 9 = .ok (.if_icmp .ge 20, 3) := by decide +kernel
theorem dX0_countWorkingDrains_12 : decode cX0_countWorkingDrains 12 = .ok (.aload_n 0, 1) := by decide +kernel
theorem dX0_countWorkingDrains_13 : decode cX0_countWorkingDrains 13 = .ok (.iload_n 2, 1) := by decide +kernel
theorem dX0_countWorkingDrains_14 : decode cX0_countWorkingDrains 14 = .ok (.invokevirtual 97, 3) := by decide +kernel
theorem dX0_countWorkingDrains_17 : decode cX0_countWorkingDrains 17 = .ok (.ifCond .eq 6, 3) := by decide +kernel
theorem dX0_countWorkingDrains_20 : decode cX0_countWorkingDrains 20 = .ok (.iinc 1 1, 3) := by decide +kernel
theorem dX0_countWorkingDrains_23 : decode cX0_countWorkingDrains 23 = .ok (.iinc 2 1, 3) := by decide +kernel
theorem dX0_countWorkingDrains_26 : decode cX0_countWorkingDrains 26 = .ok (.goto (-22), 3) := by decide +kernel
theorem dX0_countWorkingDrains_29 : decode cX0_countWorkingDrains 29 = .ok (.iload_n 1, 1) := by decide +kernel
theorem dX0_countWorkingDrains_30 : decode cX0_countWorkingDrains 30 = .ok (.ireturn, 1) := by decide +kernel
theorem dX0_countSoap_0 : decode cX0_countSoap 0 = .ok (.iconst 0, 1) := by decide +kernel
theorem dX0_countSoap_1 : decode cX0_countSoap 1 = .ok (.istore_n 1, 1) := by decide +kernel
theorem dX0_countSoap_2 : decode cX0_countSoap 2 = .ok (.iconst 0, 1) := by decide +kernel
theorem dX0_countSoap_3 : decode cX0_countSoap 3 = .ok (.istore_n 2, 1) := by decide +kernel
theorem dX0_countSoap_4 : decode cX0_countSoap 4 = .ok (.iload_n 2, 1) := by decide +kernel
theorem dX0_countSoap_5 : decode cX0_countSoap 5 = .ok (.aload_n 0, 1) := by decide +kernel
theorem dX0_countSoap_6 : decode cX0_countSoap 6 = .ok (.getfield 39, 3) := by decide +kernel
theorem dX0_countSoap_9 : decode cX0_countSoap 9 = .ok (.aload_n 0, 1) := by decide +kernel
theorem dX0_countSoap_10 : decode cX0_countSoap 10 = .ok (.getfield 43, 3) := by decide +kernel
theorem dX0_countSoap_13 : decode cX0_countSoap 13 = .ok (.imul, 1) := by decide +kernel
theorem dX0_countSoap_14 : decode cX0_countSoap 14 = .ok (.if_icmp .ge 20, 3) := by decide +kernel
theorem dX0_countSoap_17 : decode cX0_countSoap 17 = .ok (.iload_n 1, 1) := by decide +kernel
theorem dX0_countSoap_18 : decode cX0_countSoap 18 = .ok (.aload_n 0, 1) := by decide +kernel
theorem dX0_countSoap_19 : decode cX0_countSoap 19 = .ok (.getfield 29, 3) := by decide +kernel
theorem dX0_countSoap_22 : decode cX0_countSoap 22 = .ok (.iload_n 2, 1) := by decide +kernel
theorem dX0_countSoap_23 : decode cX0_countSoap 23 = .ok (.invokevirtual 91, 3) := by decide +kernel
theorem dX0_countSoap_26 : decode cX0_countSoap 26 = .ok (.iadd, 1) := by decide +kernel
theorem dX0_countSoap_27 : decode cX0_countSoap 27 = .ok (.istore_n 1, 1) := by decide +kernel
theorem dX0_countSoap_28 : decode cX0_countSoap 28 = .ok (.iinc 2 1, 3) := by decide +kernel
theorem dX0_countSoap_31 : decode cX0_countSoap 31 = .ok (.goto (-27), 3) := by decide +kernel
theorem dX0_countSoap_34 : decode cX0_countSoap 34 = .ok (.iload_n 1, 1) := by decide +kernel
theorem dX0_countSoap_35 : decode cX0_countSoap 35 = .ok (.ireturn, 1) := by decide +kernel
theorem dX0_addSoap_0 : decode cX0_addSoap 0 = .ok (.aload_n 0, 1) := by decide +kernel
theorem dX0_addSoap_1 : decode cX0_addSoap 1 = .ok (.getfield 29, 3) := by decide +kernel
theorem dX0_addSoap_4 : decode cX0_addSoap 4 = .ok (.iload_n 1, 1) := by decide +kernel
theorem dX0_addSoap_5 : decode cX0_addSoap 5 = .ok (.aload_n 0, 1) := by decide +kernel
theorem dX0_addSoap_6 : decode cX0_addSoap 6 = .ok (.getfield 29, 3) := by decide +kernel
theorem dX0_addSoap_9 : decode cX0_addSoap 9 = .ok (.iload_n 1, 1) := by decide +kernel
theorem dX0_addSoap_10 : decode cX0_addSoap 10 = .ok (.invokevirtual 91, 3) := by decide +kernel
theorem dX0_addSoap_13 : decode cX0_addSoap 13 = .ok (.iload_n 2, 1) := by decide +kernel
theorem dX0_addSoap_14 : decode cX0_addSoap 14 = .ok (.iadd, 1) := by decide +kernel
theorem dX0_addSoap_15 : decode cX0_addSoap 15 = .ok (.bipush 99, 2) := by decide +kernel
theorem dX0_addSoap_17 : decode cX0_addSoap 17 = .ok (.invokestatic 101, 3) := by decide +kernel
theorem dX0_addSoap_20 : decode cX0_addSoap 20 = .ok (.invokevirtual 106, 3) := by decide +kernel
theorem dX0_addSoap_23 : decode cX0_addSoap 23 = .ok (.return_, 1) := by decide +kernel
theorem dX0_addDrain_0 : decode cX0_addDrain 0 = .ok (.aload_n 0, 1) := by decide +kernel
theorem dX0_addDrain_1 : decode cX0_addDrain 1 = .ok (.getfield 20, 3) := by decide +kernel
theorem dX0_addDrain_4 : decode cX0_addDrain 4 = .ok (.aload_n 0, 1) := by decide +kernel
theorem dX0_addDrain_5 : decode cX0_addDrain 5 = .ok (.getfield 64, 3) := by decide +kernel
theorem dX0_addDrain_8 : decode cX0_addDrain 8 = .ok (.iconst 0, 1) := by decide +kernel
theorem dX0_addDrain_9 : decode cX0_addDrain 9 = .ok (.iload_n 1, 1) := by decide +kernel
theorem dX0_addDrain_10 : decode cX0_addDrain 10 = .ok (.invokevirtual 109, 3) := by decide +kernel
theorem dX0_addDrain_13 : decode cX0_addDrain 13 = .ok (.aload_n 0, 1) := by decide +kernel
theorem dX0_addDrain_14 : decode cX0_addDrain 14 = .ok (.getfield 20, 3) := by decide +kernel
theorem dX0_addDrain_17 : decode cX0_addDrain 17 = .ok (.aload_n 0, 1) := by decide +kernel
theorem dX0_addDrain_18 : decode cX0_addDrain 18 = .ok (.getfield 64, 3) := by decide +kernel
theorem dX0_addDrain_21 : decode cX0_addDrain 21 = .ok (.iconst 1, 1) := by decide +kernel
theorem dX0_addDrain_22 : decode cX0_addDrain 22 = .ok (.iload_n 2, 1) := by decide +kernel
theorem dX0_addDrain_23 : decode cX0_addDrain 23 = .ok (.invokevirtual 109, 3) := by decide +kernel
theorem dX0_addDrain_26 : decode cX0_addDrain 26 = .ok (.aload_n 0, 1) := by decide +kernel
theorem dX0_addDrain_27 : decode cX0_addDrain 27 = .ok (.getfield 20, 3) := by decide +kernel
theorem dX0_addDrain_30 : decode cX0_addDrain 30 = .ok (.aload_n 0, 1) := by decide +kernel
theorem dX0_addDrain_31 : decode cX0_addDrain 31 = .ok (.getfield 64, 3) := by decide +kernel
theorem dX0_addDrain_34 : decode cX0_addDrain 34 = .ok (.iconst 2, 1) := by decide +kernel
theorem dX0_addDrain_35 : decode cX0_addDrain 35 = .ok (.iload_n 3, 1) := by decide +kernel
theorem dX0_addDrain_36 : decode cX0_addDrain 36 = .ok (.invokevirtual 109, 3) := by decide +kernel
theorem dX0_addDrain_39 : decode cX0_addDrain 39 = .ok (.aload_n 0, 1) := by decide +kernel
theorem dX0_addDrain_40 : decode cX0_addDrain 40 = .ok (.getfield 20, 3) := by decide +kernel
theorem dX0_addDrain_43 : decode cX0_addDrain 43 = .ok (.aload_n 0, 1) := by decide +kernel
theorem dX0_addDrain_44 : decode cX0_addDrain 44 = .ok (.getfield 64, 3) := by decide +kernel
theorem dX0_addDrain_47 : decode cX0_addDrain 47 = .ok (.iconst 3, 1) := by decide +kernel
theorem dX0_addDrain_48 : decode cX0_addDrain 48 = .ok (.iload 4, 2) := by decide +kernel
theorem dX0_addDrain_50 : decode cX0_addDrain 50 = .ok (.invokevirtual 109, 3) := by decide +kernel
theorem dX0_addDrain_53 : decode cX0_addDrain 53 = .ok (.aload_n 0, 1) := by decide +kernel
theorem dX0_addDrain_54 : decode cX0_addDrain 54 = .ok (.getfield 20, 3) := by decide +kernel
theorem dX0_addDrain_57 : decode cX0_addDrain 57 = .ok (.aload_n 0, 1) := by decide +kernel
theorem dX0_addDrain_58 : decode cX0_addDrain 58 = .ok (.getfield 64, 3) := by decide +kernel
theorem dX0_addDrain_61 : decode cX0_addDrain 61 = .ok (.iconst 5, 1) := by decide +kernel
theorem dX0_addDrain_62 : decode cX0_addDrain 62 = .ok (.iconst 0, 1) := by decide +kernel
theorem dX0_addDrain_63 : decode cX0_addDrain 63 = .ok (.invokevirtual 109, 3) := by decide +kernel
theorem dX0_addDrain_66 : decode cX0_addDrain 66 = .ok (.aload_n 0, 1) := by decide +kernel
theorem dX0_addDrain_67 : decode cX0_addDrain 67 = .ok (.dup, 1) := by decide +kernel
theorem dX0_addDrain_68 : decode cX0_addDrain 68 = .ok (.getfield 64, 3) := by decide +kernel
theorem dX0_addDrain_71 : decode cX0_addDrain 71 = .ok (.iconst 1, 1) := by decide +kernel
theorem dX0_addDrain_72 : decode cX0_addDrain 72 = .ok (.iadd, 1) := by decide +kernel
theorem dX0_addDrain_73 : decode cX0_addDrain 73 = .ok (.putfield 64, 3) := by decide +kernel
theorem dX0_addDrain_76 : decode cX0_addDrain 76 = .ok (.return_, 1) := by decide +kernel
theorem dX0_addTap_0 : decode cX0_addTap 0 = .ok (.aload_n 0, 1) := by decide +kernel
theorem dX0_addTap_1 : decode cX0_addTap 1 = .ok (.getfield 23, 3) := by decide +kernel
theorem dX0_addTap_4 : decode cX0_addTap 4 = .ok (.aload_n 0, 1) := by decide +kernel
theorem dX0_addTap_5 : decode cX0_addTap 5 = .ok (.getfield 67, 3) := by decide +kernel
theorem dX0_addTap_8 : decode cX0_addTap 8 = .ok (.iconst 0, 1) := by decide +kernel
theorem dX0_addTap_9 : decode cX0_addTap 9 = .ok (.iload_n 1, 1) := by decide +kernel
theorem dX0_addTap_10 : decode cX0_addTap 10 = .ok (.invokevirtual 109, 3) := by decide +kernel
theorem dX0_addTap_13 : decode cX0_addTap 13 = .ok (.aload_n 0, 1) := by decide +kernel
theorem dX0_addTap_14 : decode cX0_addTap 14 = .ok (.getfield 23, 3) := by decide +kernel
theorem dX0_addTap_17 : decode cX0_addTap 17 = .ok (.aload_n 0, 1) := by decide +kernel
theorem dX0_addTap_18 : decode cX0_addTap 18 = .ok (.getfield 67, 3) := by decide +kernel
theorem dX0_addTap_21 : decode cX0_addTap 21 = .ok (.iconst 1, 1) := by decide +kernel
theorem dX0_addTap_22 : decode cX0_addTap 22 = .ok (.iload_n 2, 1) := by decide +kernel
theorem dX0_addTap_23 : decode cX0_addTap 23 = .ok (.invokevirtual 109, 3) := by decide +kernel
theorem dX0_addTap_26 : decode cX0_addTap 26 = .ok (.aload_n 0, 1) := by decide +kernel
theorem dX0_addTap_27 : decode cX0_addTap 27 = .ok (.getfield 23, 3) := by decide +kernel
theorem dX0_addTap_30 : decode cX0_addTap 30 = .ok (.aload_n 0, 1) := by decide +kernel
theorem dX0_addTap_31 : decode cX0_addTap 31 = .ok (.getfield 67, 3) := by decide +kernel
theorem dX0_addTap_34 : decode cX0_addTap 34 = .ok (.iconst 2, 1) := by decide +kernel
theorem dX0_addTap_35 : decode cX0_addTap 35 = .ok (.iload_n 3, 1) := by decide +kernel
theorem dX0_addTap_36 : decode cX0_addTap 36 = .ok (.invokevirtual 109, 3) := by decide +kernel
theorem dX0_addTap_39 : decode cX0_addTap 39 = .ok (.aload_n 0, 1) := by decide +kernel
theorem dX0_addTap_40 : decode cX0_addTap 40 = .ok (.dup, 1) := by decide +kernel
theorem dX0_addTap_41 : decode cX0_addTap 41 = .ok (.getfield 67, 3) := by decide +kernel
theorem dX0_addTap_44 : decode cX0_addTap 44 = .ok (.iconst 1, 1) := by decide +kernel
theorem dX0_addTap_45 : decode cX0_addTap 45 = .ok (.iadd, 1) := by decide +kernel
theorem dX0_addTap_46 : decode cX0_addTap 46 = .ok (.putfield 67, 3) := by decide +kernel
theorem dX0_addTap_49 : decode cX0_addTap 49 = .ok (.return_, 1) := by decide +kernel
theorem dX0_launch_0 : decode cX0_launch 0 = .ok (.iconst 0, 1) := by decide +kernel
theorem dX0_launch_1 : decode cX0_launch 1 = .ok (.istore 5, 2) := by decide +kernel
theorem dX0_launch_3 : decode cX0_launch 3 = .ok (.iload 5, 2) := by decide +kernel
theorem dX0_launch_5 : decode cX0_launch 5 = .ok (.bipush 11, 2) := by decide +kernel
theorem dX0_launch_7 : decode cX0_launch 7 = .ok (.if_icmp .ge 23, 3) := by decide +kernel
theorem dX0_launch_10 : decode cX0_launch 10 = .ok (.aload_n 0, 1) := by decide +kernel
theorem dX0_launch_11 : decode cX0_launch 11 = .ok (.getfield 16, 3) := by decide +kernel
theorem dX0_launch_14 : decode cX0_launch 14 = .ok (.aload_n 0, 1) := by decide +kernel
theorem dX0_launch_15 : decode cX0_launch 15 = .ok (.getfield 61, 3) := by decide +kernel
theorem dX0_launch_18 : decode cX0_launch 18 = .ok (.iload 5, 2) := by decide +kernel
theorem dX0_launch_20 : decode cX0_launch 20 = .ok (.iconst 0, 1) := by decide +kernel
theorem dX0_launch_21 : decode cX0_launch 21 = .ok (.invokevirtual 109, 3) := by decide +kernel
theorem dX0_launch_24 : decode cX0_launch 24 = .ok (.iinc 5 1, 3) := by decide +kernel
theorem dX0_launch_27 : decode cX0_launch 27 = .ok (.goto (-24), 3) := by decide +kernel
theorem dX0_launch_30 : decode cX0_launch 30 = .ok (.aload_n 0, 1) := by decide +kernel
theorem dX0_launch_31 : decode cX0_launch 31 = .ok (.getfield 16, 3) := by decide +kernel
theorem dX0_launch_34 : decode cX0_launch 34 = .ok (.aload_n 0, 1) := by decide +kernel
theorem dX0_launch_35 : decode cX0_launch 35 = .ok (.getfield 61, 3) := by decide +kernel
theorem dX0_launch_38 : decode cX0_launch 38 = .ok (.iconst 0, 1) := by decide +kernel
theorem dX0_launch_39 : decode cX0_launch 39 = .ok (.iload_n 1, 1) := by decide +kernel
theorem dX0_launch_40 : decode cX0_launch 40 = .ok (.invokevirtual 109, 3) := by decide +kernel
theorem dX0_launch_43 : decode cX0_launch 43 = .ok (.aload_n 0, 1) := by decide +kernel
theorem dX0_launch_44 : decode cX0_launch 44 = .ok (.getfield 16, 3) := by decide +kernel
theorem dX0_launch_47 : decode cX0_launch 47 = .ok (.aload_n 0, 1) := by decide +kernel
theorem dX0_launch_48 : decode cX0_launch 48 = .ok (.getfield 61, 3) := by decide +kernel
theorem dX0_launch_51 : decode cX0_launch 51 = .ok (.iconst 1, 1) := by decide +kernel
theorem dX0_launch_52 : decode cX0_launch 52 = .ok (.iload_n 2, 1) := by decide +kernel
theorem dX0_launch_53 : decode cX0_launch 53 = .ok (.invokevirtual 109, 3) := by decide +kernel
theorem dX0_launch_56 : decode cX0_launch 56 = .ok (.aload_n 0, 1) := by decide +kernel
theorem dX0_launch_57 : decode cX0_launch 57 = .ok (.getfield 16, 3) := by decide +kernel
theorem dX0_launch_60 : decode cX0_launch 60 = .ok (.aload_n 0, 1) := by decide +kernel
theorem dX0_launch_61 : decode cX0_launch 61 = .ok (.getfield 61, 3) := by decide +kernel
theorem dX0_launch_64 : decode cX0_launch 64 = .ok (.iconst 2, 1) := by decide +kernel
theorem dX0_launch_65 : decode cX0_launch 65 = .ok (.iload_n 3, 1) := by decide +kernel
theorem dX0_launch_66 : decode cX0_launch 66 = .ok (.invokevirtual 109, 3) := by decide +kernel
theorem dX0_launch_69 : decode cX0_launch 69 = .ok (.aload_n 0, 1) := by decide +kernel
theorem dX0_launch_70 : decode cX0_launch 70 = .ok (.getfield 16, 3) := by decide +kernel
theorem dX0_launch_73 : decode cX0_launch 73 = .ok (.aload_n 0, 1) := by decide +kernel
theorem dX0_launch_74 : decode cX0_launch 74 = .ok (.getfield 61, 3) := by decide +kernel
theorem dX0_launch_77 : decode cX0_launch 77 = .ok (.iconst 3, 1) := by decide +kernel
theorem dX0_launch_78 : decode cX0_launch 78 = .ok (.iload 4, 2) := by decide +kernel
theorem dX0_launch_80 : decode cX0_launch 80 = .ok (.invokevirtual 109, 3) := by decide +kernel
theorem dX0_launch_83 : decode cX0_launch 83 = .ok (.aload_n 0, 1) := by decide +kernel
theorem dX0_launch_84 : decode cX0_launch 84 = .ok (.getfield 16, 3) := by decide +kernel
theorem dX0_launch_87 : decode cX0_launch 87 = .ok (.aload_n 0, 1) := by decide +kernel
theorem dX0_launch_88 : decode cX0_launch 88 = .ok (.getfield 61, 3) := by decide +kernel
theorem dX0_launch_91 : decode cX0_launch 91 = .ok (.bipush 8, 2) := by decide +kernel
theorem dX0_launch_93 : decode cX0_launch 93 = .ok (.iconst (-1), 1) := by decide +kernel
theorem dX0_launch_94 : decode cX0_launch 94 = .ok (.invokevirtual 109, 3) := by decide +kernel
theorem dX0_launch_97 : decode cX0_launch 97 = .ok (.aload_n 0, 1) := by decide +kernel
theorem dX0_launch_98 : decode cX0_launch 98 = .ok (.getfield 33, 3) := by decide +kernel
theorem dX0_launch_101 : decode cX0_launch 101 = .ok (.aload_n 0, 1) := by decide +kernel
theorem dX0_launch_102 : decode cX0_launch 102 = .ok (.iload_n 1, 1) := by decide +kernel
theorem dX0_launch_103 : decode cX0_launch 103 = .ok (.iload_n 2, 1) := by decide +kernel
theorem dX0_launch_104 : decode cX0_launch 104 = .ok (.invokevirtual 88, 3) := by decide +kernel
theorem dX0_launch_107 : decode cX0_launch 107 = .ok (.aload_n 0, 1) := by decide +kernel
theorem dX0_launch_108 : decode cX0_launch 108 = .ok (.getfield 61, 3) := by decide +kernel
theorem dX0_launch_111 : decode cX0_launch 111 = .ok (.invokevirtual 106, 3) := by decide +kernel
theorem dX0_launch_114 : decode cX0_launch 114 = .ok (.aload_n 0, 1) := by decide +kernel
theorem dX0_launch_115 : decode cX0_launch 115 = .ok (.dup, 1) := by decide +kernel
theorem dX0_launch_116 : decode cX0_launch 116 = .ok (.getfield 61, 3) := by decide +kernel
theorem dX0_launch_119 : decode cX0_launch 119 = .ok (.iconst 1, 1) := by decide +kernel
theorem dX0_launch_120 : decode cX0_launch 120 = .ok (.iadd, 1) := by decide +kernel
theorem dX0_launch_121 : decode cX0_launch 121 = .ok (.putfield 61, 3) := by decide +kernel
theorem dX0_launch_124 : decode cX0_launch 124 = .ok (.return_, 1) := by decide +kernel
theorem dX0_place_0 : decode cX0_place 0 = .ok (.aload_n 0, 1) := by decide +kernel
theorem dX0_place_1 : decode cX0_place 1 = .ok (.getfield 33, 3) := by decide +kernel
theorem dX0_place_4 : decode cX0_place 4 = .ok (.aload_n 0, 1) := by decide +kernel
theorem dX0_place_5 : decode cX0_place 5 = .ok (.aload_n 0, 1) := by decide +kernel
theorem dX0_place_6 : decode cX0_place 6 = .ok (.getfield 16, 3) := by decide +kernel
theorem dX0_place_9 : decode cX0_place 9 = .ok (.iload_n 1, 1) := by decide +kernel
theorem dX0_place_10 : decode cX0_place 10 = .ok (.iconst 0, 1) := by decide +kernel
theorem dX0_place_11 : decode cX0_place 11 = .ok (.invokevirtual 84, 3) := by decide +kernel
theorem dX0_place_14 : decode cX0_place 14 = .ok (.aload_n 0, 1) := by decide +kernel
theorem dX0_place_15 : decode cX0_place 15 = .ok (.getfield 16, 3) := by decide +kernel
theorem dX0_place_18 : decode cX0_place 18 = .ok (.iload_n 1, 1) := by decide +kernel
theorem dX0_place_19 : decode cX0_place 19 = .ok (.iconst 1, 1) := by decide +kernel
theorem dX0_place_20 : decode cX0_place 20 = .ok (.invokevirtual 84, 3) := by decide +kernel
theorem dX0_place_23 : decode cX0_place 23 = .ok (.invokevirtual 88, 3) := by decide +kernel
theorem dX0_place_26 : decode cX0_place 26 = .ok (.iconst (-1), 1) := by decide +kernel
theorem dX0_place_27 : decode cX0_place 27 = .ok (.invokevirtual 106, 3) := by decide +kernel
theorem dX0_place_30 : decode cX0_place 30 = .ok (.aload_n 0, 1) := by decide +kernel
theorem dX0_place_31 : decode cX0_place 31 = .ok (.getfield 16, 3) := by decide +kernel
theorem dX0_place_34 : decode cX0_place 34 = .ok (.iload_n 1, 1) := by decide +kernel
theorem dX0_place_35 : decode cX0_place 35 = .ok (.iconst 0, 1) := by decide +kernel
theorem dX0_place_36 : decode cX0_place 36 = .ok (.iload_n 2, 1) := by decide +kernel
theorem dX0_place_37 : decode cX0_place 37 = .ok (.invokevirtual 109, 3) := by decide +kernel
theorem dX0_place_40 : decode cX0_place 40 = .ok (.aload_n 0, 1) := by decide +kernel
theorem dX0_place_41 : decode cX0_place 41 = .ok (.getfield 16, 3) := by decide +kernel
theorem dX0_place_44 : decode cX0_place 44 = .ok (.iload_n 1, 1) := by decide +kernel
theorem dX0_place_45 : decode cX0_place 45 = .ok (.iconst 1, 1) := by decide +kernel
theorem dX0_place_46 : decode cX0_place 46 = .ok (.iload_n 3, 1) := by decide +kernel
theorem dX0_place_47 : decode cX0_place 47 = .ok (.invokevirtual 109, 3) := by decide +kernel
theorem dX0_place_50 : decode cX0_place 50 = .ok (.aload_n 0, 1) := by decide +kernel
theorem dX0_place_51 : decode cX0_place 51 = .ok (.getfield 33, 3) := by decide +kernel
theorem dX0_place_54 : decode cX0_place 54 = .ok (.aload_n 0, 1) := by decide +kernel
theorem dX0_place_55 : decode cX0_place 55 = .ok (.iload_n 2, 1) := by decide +kernel
theorem dX0_place_56 : decode cX0_place 56 = .ok (.iload_n 3, 1) := by decide +kernel
theorem dX0_place_57 : decode cX0_place 57 = .ok (.invokevirtual 88, 3) := by decide +kernel
theorem dX0_place_60 : decode cX0_place 60 = .ok (.iload_n 1, 1) := by decide +kernel
theorem dX0_place_61 : decode cX0_place 61 = .ok (.invokevirtual 106, 3) := by decide +kernel
theorem dX0_place_64 : decode cX0_place 64 = .ok (.return_, 1) := by decide +kernel
theorem dX0_stopDrift_0 : decode cX0_stopDrift 0 = .ok (.aload_n 0, 1) := by decide +kernel
theorem dX0_stopDrift_1 : decode cX0_stopDrift 1 = .ok (.getfield 16, 3) := by decide +kernel
theorem dX0_stopDrift_4 : decode cX0_stopDrift 4 = .ok (.iload_n 1, 1) := by decide +kernel
theorem dX0_stopDrift_5 : decode cX0_stopDrift 5 = .ok (.iconst 5, 1) := by decide +kernel
theorem dX0_stopDrift_6 : decode cX0_stopDrift 6 = .ok (.iconst 0, 1) := by decide +kernel
theorem dX0_stopDrift_7 : decode cX0_stopDrift 7 = .ok (.invokevirtual 109, 3) := by decide +kernel
theorem dX0_stopDrift_10 : decode cX0_stopDrift 10 = .ok (.aload_n 0, 1) := by decide +kernel
theorem dX0_stopDrift_11 : decode cX0_stopDrift 11 = .ok (.getfield 16, 3) := by decide +kernel
theorem dX0_stopDrift_14 : decode cX0_stopDrift 14 = .ok (.iload_n 1, 1) := by decide +kernel
theorem dX0_stopDrift_15 : decode cX0_stopDrift 15 = .ok (.bipush 6, 2) := by decide +kernel
theorem dX0_stopDrift_17 : decode cX0_stopDrift 17 = .ok (.iconst 0, 1) := by decide +kernel
theorem dX0_stopDrift_18 : decode cX0_stopDrift 18 = .ok (.invokevirtual 109, 3) := by decide +kernel
theorem dX0_stopDrift_21 : decode cX0_stopDrift 21 = .ok (.return_, 1) := by decide +kernel
theorem dX0_limitDrift_0 : decode cX0_limitDrift 0 = .ok (.sipush (-300), 3) := by decide +kernel
theorem dX0_limitDrift_3 : decode cX0_limitDrift 3 = .ok (.iload_n 0, 1) := by decide +kernel
theorem dX0_limitDrift_4 : decode cX0_limitDrift 4 = .ok (.sipush 300, 3) := by decide +kernel
theorem dX0_limitDrift_7 : decode cX0_limitDrift 7 = .ok (.invokestatic 101, 3) := by decide +kernel
theorem dX0_limitDrift_10 : decode cX0_limitDrift 10 = .ok (.invokestatic 112, 3) := by decide +kernel
theorem dX0_limitDrift_13 : decode cX0_limitDrift 13 = .ok (.ireturn, 1) := by decide +kernel
theorem dX0_addDrift_0 : decode cX0_addDrift 0 = .ok (.aload_n 0, 1) := by decide +kernel
theorem dX0_addDrift_1 : decode cX0_addDrift 1 = .ok (.getfield 16, 3) := by decide +kernel
theorem dX0_addDrift_4 : decode cX0_addDrift 4 = .ok (.iload_n 1, 1) := by decide +kernel
theorem dX0_addDrift_5 : decode cX0_addDrift 5 = .ok (.iload_n 2, 1) := by decide +kernel
theorem dX0_addDrift_6 : decode cX0_addDrift 6 = .ok (.aload_n 0, 1) := by decide +kernel
theorem dX0_addDrift_7 : decode cX0_addDrift 7 = .ok (.getfield 16, 3) := by decide +kernel
theorem dX0_addDrift_10 : decode cX0_addDrift 10 = .ok (.iload_n 1, 1) := by decide +kernel
theorem dX0_addDrift_11 : decode cX0_addDrift 11 = .ok (.iload_n 2, 1) := by decide +kernel
theorem dX0_addDrift_12 : decode cX0_addDrift 12 = .ok (.invokevirtual 84, 3) := by decide +kernel
theorem dX0_addDrift_15 : decode cX0_addDrift 15 = .ok (.iload_n 3, 1) := by decide +kernel
theorem dX0_addDrift_16 : decode cX0_addDrift 16 = .ok (.iadd, 1) := by decide +kernel
theorem dX0_addDrift_17 : decode cX0_addDrift 17 = .ok (.invokestatic 115, 3) := by decide +kernel
theorem dX0_addDrift_20 : decode cX0_addDrift 20 = .ok (.invokevirtual 109, 3) := by decide +kernel
theorem dX0_addDrift_23 : decode cX0_addDrift 23 = .ok (.return_, 1) := by decide +kernel
theorem dX0_endBoat_0 : decode cX0_endBoat 0 = .ok (.aload_n 0, 1) := by decide +kernel
theorem dX0_endBoat_1 : decode cX0_endBoat 1 = .ok (.getfield 16, 3) := by decide +kernel
theorem dX0_endBoat_4 : decode cX0_endBoat 4 = .ok (.iload_n 1, 1) := by decide +kernel
theorem dX0_endBoat_5 : decode cX0_endBoat 5 = .ok (.bipush 7, 2) := by decide +kernel
theorem dX0_endBoat_7 : decode cX0_endBoat 7 = .ok (.iload_n 2, 1) := by decide +kernel
theorem dX0_endBoat_8 : decode cX0_endBoat 8 = .ok (.invokevirtual 109, 3) := by decide +kernel
theorem dX0_endBoat_11 : decode cX0_endBoat 11 = .ok (.aload_n 0, 1) := by decide +kernel
theorem dX0_endBoat_12 : decode cX0_endBoat 12 = .ok (.getfield 16, 3) := by decide +kernel
theorem dX0_endBoat_15 : decode cX0_endBoat 15 = .ok (.iload_n 1, 1) := by decide +kernel
theorem dX0_endBoat_16 : decode cX0_endBoat 16 = .ok (.bipush 8, 2) := by decide +kernel
theorem dX0_endBoat_18 : decode cX0_endBoat 18 = .ok (.aload_n 0, 1) := by decide +kernel
theorem dX0_endBoat_19 : decode cX0_endBoat 19 = .ok (.getfield 58, 3) := by decide +kernel
theorem dX0_endBoat_22 : decode cX0_endBoat 22 = .ok (.invokevirtual 109, 3) := by decide +kernel
theorem dX0_endBoat_25 : decode cX0_endBoat 25 = .ok (.aload_n 0, 1) := by decide +kernel
theorem dX0_endBoat_26 : decode cX0_endBoat 26 = .ok (.getfield 33, 3) := by decide +kernel
theorem dX0_endBoat_29 : decode cX0_endBoat 29 = .ok (.aload_n 0, 1) := by decide +kernel
theorem dX0_endBoat_30 : decode cX0_endBoat 30 = .ok (.iload_n 1, 1) := by decide +kernel
theorem dX0_endBoat_31 : decode cX0_endBoat 31 = .ok (.invokevirtual 118, 3) := by decide +kernel
theorem dX0_endBoat_34 : decode cX0_endBoat 34 = .ok (.iconst (-1), 1) := by decide +kernel
theorem dX0_endBoat_35 : decode cX0_endBoat 35 = .ok (.invokevirtual 106, 3) := by decide +kernel
theorem dX0_endBoat_38 : decode cX0_endBoat 38 = .ok (.aload_n 0, 1) := by decide +kernel
theorem dX0_endBoat_39 : decode cX0_endBoat 39 = .ok (.getfield 36, 3) := by decide +kernel
theorem dX0_endBoat_42 : decode cX0_endBoat 42 = .ok (.aload_n 0, 1) := by decide +kernel
theorem dX0_endBoat_43 : decode cX0_endBoat 43 = .ok (.getfield 70, 3) := by decide +kernel
theorem dX0_endBoat_46 : decode cX0_endBoat 46 = .ok (.iload_n 1, 1) := by decide +kernel
theorem dX0_endBoat_47 : decode cX0_endBoat 47 = .ok (.invokevirtual 106, 3) := by decide +kernel
theorem dX0_endBoat_50 : decode cX0_endBoat 50 = .ok (.aload_n 0, 1) := by decide +kernel
theorem dX0_endBoat_51 : decode cX0_endBoat 51 = .ok (.dup, 1) := by decide +kernel
theorem dX0_endBoat_52 : decode cX0_endBoat 52 = .ok (.getfield 70, 3) := by decide +kernel
theorem dX0_endBoat_55 : decode cX0_endBoat 55 = .ok (.iconst 1, 1) := by decide +kernel
theorem dX0_endBoat_56 : decode cX0_endBoat 56 = .ok (.iadd, 1) := by decide +kernel
theorem dX0_endBoat_57 : decode cX0_endBoat 57 = .ok (.putfield 70, 3) := by decide +kernel
theorem dX0_endBoat_60 : decode cX0_endBoat 60 = .ok (.return_, 1) := by decide +kernel
theorem dX1_init_0 : decode cX1_init 0 = .ok (.aload_n 0, 1) := by decide +kernel
theorem dX1_init_1 : decode cX1_init 1 = .ok (.invokespecial 3, 3) := by decide +kernel
theorem dX1_init_4 : decode cX1_init 4 = .ok (.aload_n 0, 1) := by decide +kernel
theorem dX1_init_5 : decode cX1_init 5 = .ok (.new 9, 3) := by decide +kernel
theorem dX1_init_8 : decode cX1_init 8 = .ok (.dup, 1) := by decide +kernel
theorem dX1_init_9 : decode cX1_init 9 = .ok (.invokespecial 11, 3) := by decide +kernel
theorem dX1_init_12 : decode cX1_init 12 = .ok (.putfield 12, 3) := by decide +kernel
theorem dX1_init_15 : decode cX1_init 15 = .ok (.aload_n 0, 1) := by decide +kernel
theorem dX1_init_16 : decode cX1_init 16 = .ok (.aload_n 1, 1) := by decide +kernel
theorem dX1_init_17 : decode cX1_init 17 = .ok (.putfield 18, 3) := by decide +kernel
theorem dX1_init_20 : decode cX1_init 20 = .ok (.return_, 1) := by decide +kernel
theorem dX1_read_0 : decode cX1_read 0 = .ok (.aload_n 0, 1) := by decide +kernel
theorem dX1_read_1 : decode cX1_read 1 = .ok (.invokevirtual 22, 3) := by decide +kernel
theorem dX1_read_4 : decode cX1_read 4 = .ok (.iconst 0, 1) := by decide +kernel
theorem dX1_read_5 : decode cX1_read 5 = .ok (.istore_n 1, 1) := by decide +kernel
theorem dX1_read_6 : decode cX1_read 6 = .ok (.iload_n 1, 1) := by decide +kernel
theorem dX1_read_7 : decode cX1_read 7 = .ok (.sipush 700, 3) := by decide +kernel
theorem dX1_read_10 : decode cX1_read 10 = .ok (.if_icmp .ge 103, 3) := by decide +kernel
theorem dX1_read_13 : decode cX1_read 13 = .ok (.aload_n 0, 1) := by decide +kernel
theorem dX1_read_14 : decode cX1_read 14 = .ok (.getfield 18, 3) := by decide +kernel
theorem dX1_read_17 : decode cX1_read 17 = .ok (.invokevirtual 25, 3) := by decide +kernel
theorem dX1_read_20 : decode cX1_read 20 = .ok (.ifCond .eq 93, 3) := by decide +kernel
theorem dX1_read_23 : decode cX1_read 23 = .ok (.aload_n 0, 1) := by decide +kernel
theorem dX1_read_24 : decode cX1_read 24 = .ok (.getfield 18, 3) := by decide +kernel
theorem dX1_read_27 : decode cX1_read 27 = .ok (.ldc 31, 2) := by decide +kernel
theorem dX1_read_29 : decode cX1_read 29 = .ok (.invokevirtual 33, 3) := by decide +kernel
theorem dX1_read_32 : decode cX1_read 32 = .ok (.ifCond .eq 10, 3) := by decide +kernel
theorem dX1_read_35 : decode cX1_read 35 = .ok (.aload_n 0, 1) := by decide +kernel
theorem dX1_read_36 : decode cX1_read 36 = .ok (.invokevirtual 37, 3) := by decide +kernel
theorem dX1_read_39 : decode cX1_read 39 = .ok (.goto 68, 3) := by decide +kernel
theorem dX1_read_42 : decode cX1_read 42 = .ok (.aload_n 0, 1) := by decide +kernel
theorem dX1_read_43 : decode cX1_read 43 = .ok (.getfield 18, 3) := by decide +kernel
theorem dX1_read_46 : decode cX1_read 46 = .ok (.ldc 40, 2) := by decide +kernel
theorem dX1_read_48 : decode cX1_read 48 = .ok (.invokevirtual 33, 3) := by decide +kernel
theorem dX1_read_51 : decode cX1_read 51 = .ok (.ifCond .eq 10, 3) := by decide +kernel
theorem dX1_read_54 : decode cX1_read 54 = .ok (.aload_n 0, 1) := by decide +kernel
theorem dX1_read_55 : decode cX1_read 55 = .ok (.invokevirtual 42, 3) := by decide +kernel
theorem dX1_read_58 : decode cX1_read 58 = .ok (.goto 49, 3) := by decide +kernel
theorem dX1_read_61 : decode cX1_read 61 = .ok (.aload_n 0, 1) := by decide +kernel
theorem dX1_read_62 : decode cX1_read 62 = .ok (.getfield 18, 3) := by decide +kernel
theorem dX1_read_65 : decode cX1_read 65 = .ok (.ldc 45, 2) := by decide +kernel
theorem dX1_read_67 : decode cX1_read 67 = .ok (.invokevirtual 33, 3) := by decide +kernel
theorem dX1_read_70 : decode cX1_read 70 = .ok (.ifCond .eq 10, 3) := by decide +kernel
theorem dX1_read_73 : decode cX1_read 73 = .ok (.aload_n 0, 1) := by decide +kernel
theorem dX1_read_74 : decode cX1_read 74 = .ok (.invokevirtual 47, 3) := by decide +kernel
theorem dX1_read_77 : decode cX1_read 77 = .ok (.goto 30, 3) := by decide +kernel
theorem dX1_read_80 : decode cX1_read 80 = .ok (.aload_n 0, 1) := by decide +kernel
theorem dX1_read_81 : decode cX1_read 81 = .ok (.getfield 18, 3) := by decide +kernel
theorem dX1_read_84 : decode cX1_read 84 = .ok (.ldc 50, 2) := by decide +kernel
theorem dX1_read_86 : decode cX1_read 86 = .ok (.invokevirtual 33, 3) := by decide +kernel
theorem dX1_read_89 : decode cX1_read 89 = .ok (.ifCond .eq 10, 3) := by decide +kernel
theorem dX1_read_92 : decode cX1_read 92 = .ok (.aload_n 0, 1) := by decide +kernel
theorem dX1_read_93 : decode cX1_read 93 = .ok (.invokevirtual 52, 3) := by decide +kernel
theorem dX1_read_96 : decode cX1_read 96 = .ok (.goto 11, 3) := by decide +kernel
theorem dX1_read_99 : decode cX1_read 99 = .ok (.aload_n 0, 1) := by decide +kernel
theorem dX1_read_100 : decode cX1_read 100 = .ok (.getfield 18, 3) := by decide +kernel
theorem dX1_read_103 : decode cX1_read 103 = .ok (.iconst 1, 1) := by decide +kernel
theorem dX1_read_104 : decode cX1_read 104 = .ok (.invokevirtual 55, 3) := by decide +kernel
theorem dX1_read_107 : decode cX1_read 107 = .ok (.iinc 1 1, 3) := by decide +kernel
theorem dX1_read_110 : decode cX1_read 110 = .ok (.goto (-104), 3) := by decide +kernel
theorem dX1_read_113 : decode cX1_read 113 = .ok (.return_, 1) := by decide +kernel
theorem dX1_readHead_0 : decode cX1_readHead 0 = .ok (.aload_n 0, 1) := by decide +kernel
theorem dX1_readHead_1 : decode cX1_readHead 1 = .ok (.getfield 18, 3) := by decide +kernel
theorem dX1_readHead_4 : decode cX1_readHead 4 = .ok (.ldc 59, 2) := by decide +kernel
theorem dX1_readHead_6 : decode cX1_readHead 6 = .ok (.invokevirtual 60, 3) := by decide +kernel
theorem dX1_readHead_9 : decode cX1_readHead 9 = .ok (.ifCond .ne 11, 3) := by decide +kernel
theorem dX1_readHead_12 : decode cX1_readHead 12 = .ok (.aload_n 0, 1) := by decide +kernel
theorem dX1_readHead_13 : decode cX1_readHead 13 = .ok (.getfield 18, 3) := by decide +kernel
theorem dX1_readHead_16 : decode cX1_readHead 16 = .ok (.iconst 1, 1) := by decide +kernel
theorem dX1_readHead_17 : decode cX1_readHead 17 = .ok (.invokevirtual 55, 3) := by decide +kernel
theorem dX1_readHead_20 : decode cX1_readHead 20 = .ok (.aload_n 0, 1) := by decide +kernel
theorem dX1_readHead_21 : decode cX1_readHead 21 = .ok (.getfield 18, 3) := by decide +kernel
theorem dX1_readHead_24 : decode cX1_readHead 24 = .ok (.iconst 3, 1) := by decide +kernel
theorem dX1_readHead_25 : decode cX1_readHead 25 = .ok (.bipush 10, 2) := by decide +kernel
theorem dX1_readHead_27 : decode cX1_readHead 27 = .ok (.invokevirtual 63, 3) := by decide +kernel
theorem dX1_readHead_30 : decode cX1_readHead 30 = .ok (.istore_n 1, 1) := by decide +kernel
theorem dX1_readHead_31 : decode cX1_readHead 31 = .ok (.aload_n 0, 1) := by decide +kernel
theorem dX1_readHead_32 : decode cX1_readHead 32 = .ok (.getfield 18, 3) := by decide +kernel
theorem dX1_readHead_35 : decode cX1_readHead 35 = .ok (.iconst 3, 1) := by decide +kernel
theorem dX1_readHead_36 : decode cX1_readHead 36 = .ok (.bipush 10, 2) := by decide +kernel
theorem dX1_readHead_38 : decode cX1_readHead 38 = .ok (.invokevirtual 63, 3) := by decide +kernel
theorem dX1_readHead_41 : decode cX1_readHead 41 = .ok (.istore_n 2, 1) := by decide +kernel
theorem dX1_readHead_42 : decode cX1_readHead 42 = .ok (.aload_n 0, 1) := by decide +kernel
theorem dX1_readHead_43 : decode cX1_readHead 43 = .ok (.getfield 12, 3) := by decide +kernel
theorem dX1_readHead_46 : decode cX1_readHead 46 = .ok (.iload_n 1, 1) := by decide +kernel
theorem dX1_readHead_47 : decode cX1_readHead 47 = .ok (.iload_n 2, 1) := by decide +kernel
theorem dX1_readHead_48 : decode cX1_readHead 48 = .ok (.invokevirtual 67, 3) := by decide +kernel
theorem dX1_readHead_51 : decode cX1_readHead 51 = .ok (.aload_n 0, 1) := by decide +kernel
theorem dX1_readHead_52 : decode cX1_readHead 52 = .ok (.getfield 18, 3) := by decide +kernel
theorem dX1_readHead_55 : decode cX1_readHead 55 = .ok (.ldc 71, 2) := by decide +kernel
theorem dX1_readHead_57 : decode cX1_readHead 57 = .ok (.invokevirtual 60, 3) := by decide +kernel
theorem dX1_readHead_60 : decode cX1_readHead 60 = .ok (.ifCond .eq 21, 3) := by decide +kernel
theorem dX1_readHead_63 : decode cX1_readHead 63 = .ok (.aload_n 0, 1) := by decide +kernel
theorem dX1_readHead_64 : decode cX1_readHead 64 = .ok (.getfield 12, 3) := by decide +kernel
theorem dX1_readHead_67 : decode cX1_readHead 67 = .ok (.aload_n 0, 1) := by decide +kernel
theorem dX1_readHead_68 : decode cX1_readHead 68 = .ok (.getfield 18, 3) := by decide +kernel
theorem dX1_readHead_71 : decode cX1_readHead 71 = .ok (.iconst 0, 1) := by decide +kernel
theorem dX1_readHead_72 : decode cX1_readHead 72 = .ok (.sipush 1000, 3) := by decide +kernel
theorem dX1_readHead_75 : decode cX1_readHead 75 = .ok (.invokevirtual 63, 3) := by decide +kernel
theorem dX1_readHead_78 : decode cX1_readHead 78 = .ok (.putfield 73, 3) := by decide +kernel
theorem dX1_readHead_81 : decode cX1_readHead 81 = .ok (.aload_n 0, 1) := by decide +kernel
theorem dX1_readHead_82 : decode cX1_readHead 82 = .ok (.getfield 18, 3) := by decide +kernel
theorem dX1_readHead_85 : decode cX1_readHead 85 = .ok (.ldc 76, 2) := by decide +kernel
theorem dX1_readHead_87 : decode cX1_readHead 87 = .ok (.invokevirtual 60, 3) := by decide +kernel
theorem dX1_readHead_90 : decode cX1_readHead 90 = .ok (.ifCond .eq 20, 3) := by decide +kernel
theorem dX1_readHead_93 : decode cX1_readHead 93 = .ok (.aload_n 0, 1) := by decide +kernel
theorem dX1_readHead_94 : decode cX1_readHead 94 = .ok (.getfield 12, 3) := by decide +kernel
theorem dX1_readHead_97 : decode cX1_readHead 97 = .ok (.aload_n 0, 1) := by decide +kernel
theorem dX1_readHead_98 : decode cX1_readHead 98 = .ok (.getfield 18, 3) := by decide +kernel
theorem dX1_readHead_101 : decode cX1_readHead 101 = .ok (.iconst 0, 1) := by decide +kernel
theorem dX1_readHead_102 : decode cX1_readHead 102 = .ok (.bipush 9, 2) := by decide +kernel
theorem dX1_readHead_104 : decode cX1_readHead 104 = .ok (.invokevirtual 63, 3) := by decide +kernel
theorem dX1_readHead_107 : decode cX1_readHead 107 = .ok (.putfield 78, 3) := by decide +kernel
theorem dX1_readHead_110 : decode cX1_readHead 110 = .ok (.aload_n 0, 1) := by decide +kernel
theorem dX1_readHead_111 : decode cX1_readHead 111 = .ok (.getfield 18, 3) := by decide +kernel
theorem dX1_readHead_114 : decode cX1_readHead 114 = .ok (.ldc 80, 2) := by decide +kernel
theorem dX1_readHead_116 : decode cX1_readHead 116 = .ok (.invokevirtual 60, 3) := by decide +kernel
theorem dX1_readHead_119 : decode cX1_readHead 119 = .ok (.ifCond .eq 25, 3) := by decide +kernel
theorem dX1_readHead_122 : decode cX1_readHead 122 = .ok (.aload_n 0, 1) := by decide +kernel
theorem dX1_readHead_123 : decode cX1_readHead 123 = .ok (.getfield 12, 3) := by decide +kernel
theorem dX1_readHead_126 : decode cX1_readHead 126 = .ok (.aload_n 0, 1) := by decide +kernel
theorem dX1_readHead_127 : decode cX1_readHead 127 = .ok (.invokevirtual 82, 3) := by decide +kernel
theorem dX1_readHead_130 : decode cX1_readHead 130 = .ok (.putfield 86, 3) := by decide +kernel
theorem dX1_readHead_133 : decode cX1_readHead 133 = .ok (.aload_n 0, 1) := by decide +kernel
theorem dX1_readHead_134 : decode cX1_readHead 134 = .ok (.getfield 12, 3) := by decide +kernel
theorem dX1_readHead_137 : decode cX1_readHead 137 = .ok (.aload_n 0, 1) := by decide +kernel
theorem dX1_readHead_138 : decode cX1_readHead 138 = .ok (.invokevirtual 82, 3) := by decide +kernel
theorem dX1_readHead_141 : decode cX1_readHead 141 = .ok (.putfield 89, 3) := by decide +kernel
theorem dX1_readHead_144 : decode cX1_readHead 144 = .ok (.aload_n 0, 1) := by decide +kernel
theorem dX1_readHead_145 : decode cX1_readHead 145 = .ok (.getfield 18, 3) := by decide +kernel
theorem dX1_readHead_148 : decode cX1_readHead 148 = .ok (.bipush 59, 2) := by decide +kernel
theorem dX1_readHead_150 : decode cX1_readHead 150 = .ok (.invokevirtual 92, 3) := by decide +kernel
theorem dX1_readHead_153 : decode cX1_readHead 153 = .ok (.return_, 1) := by decide +kernel
theorem dX1_readWind_0 : decode cX1_readWind 0 = .ok (.aload_n 0, 1) := by decide +kernel
theorem dX1_readWind_1 : decode cX1_readWind 1 = .ok (.getfield 18, 3) := by decide +kernel
theorem dX1_readWind_4 : decode cX1_readWind 4 = .ok (.bipush 45, 2) := by decide +kernel
theorem dX1_readWind_6 : decode cX1_readWind 6 = .ok (.invokevirtual 95, 3) := by decide +kernel
theorem dX1_readWind_9 : decode cX1_readWind 9 = .ok (.istore_n 1, 1) := by decide +kernel
theorem dX1_readWind_10 : decode cX1_readWind 10 = .ok (.aload_n 0, 1) := by decide +kernel
theorem dX1_readWind_11 : decode cX1_readWind 11 = .ok (.getfield 18, 3) := by decide +kernel
theorem dX1_readWind_14 : decode cX1_readWind 14 = .ok (.iconst 0, 1) := by decide +kernel
theorem dX1_readWind_15 : decode cX1_readWind 15 = .ok (.bipush 99, 2) := by decide +kernel
theorem dX1_readWind_17 : decode cX1_readWind 17 = .ok (.invokevirtual 63, 3) := by decide +kernel
theorem dX1_readWind_20 : decode cX1_readWind 20 = .ok (.istore_n 2, 1) := by decide +kernel
theorem dX1_readWind_21 : decode cX1_readWind 21 = .ok (.iload_n 1, 1) := by decide +kernel
theorem dX1_readWind_22 : decode cX1_readWind 22 = .ok (.ifCond .eq 8, 3) := by decide +kernel
theorem dX1_readWind_25 : decode cX1_readWind 25 = .ok (.iload_n 2, 1) := by decide +kernel
theorem dX1_readWind_26 : decode cX1_readWind 26 = .ok (.ineg, 1) := by decide +kernel
theorem dX1_readWind_27 : decode cX1_readWind 27 = .ok (.goto 4, 3) := by decide +kernel
theorem dX1_readWind_30 : decode cX1_readWind 30 = .ok (.iload_n 2, 1) := by decide +kernel
theorem dX1_readWind_31 : decode cX1_readWind 31 = .ok (.ireturn, 1) := by decide +kernel
theorem dX1_readDrain_0 : decode cX1_readDrain 0 = .ok (.aload_n 0, 1) := by decide +kernel
theorem dX1_readDrain_1 : decode cX1_readDrain 1 = .ok (.aload_n 0, 1) := by decide +kernel
theorem dX1_readDrain_2 : decode cX1_readDrain 2 = .ok (.getfield 12, 3) := by decide +kernel
theorem dX1_readDrain_5 : decode cX1_readDrain 5 = .ok (.getfield 99, 3) := by decide +kernel
theorem dX1_readDrain_8 : decode cX1_readDrain 8 = .ok (.iconst 5, 1) := by decide +kernel
theorem dX1_readDrain_9 : decode cX1_readDrain 9 = .ok (.invokevirtual 102, 3) := by decide +kernel
theorem dX1_readDrain_12 : decode cX1_readDrain 12 = .ok (.aload_n 0, 1) := by decide +kernel
theorem dX1_readDrain_13 : decode cX1_readDrain 13 = .ok (.getfield 18, 3) := by decide +kernel
theorem dX1_readDrain_16 : decode cX1_readDrain 16 = .ok (.iconst 0, 1) := by decide +kernel
theorem dX1_readDrain_17 : decode cX1_readDrain 17 = .ok (.aload_n 0, 1) := by decide +kernel
theorem dX1_readDrain_18 : decode cX1_readDrain 18 = .ok (.getfield 12, 3) := by decide +kernel
theorem dX1_readDrain_21 : decode cX1_readDrain 21 = .ok (.getfield 105, 3) := by decide +kernel
theorem dX1_readDrain_24 : decode cX1_readDrain 24 = .ok (.iconst 1, 1) := by decide +kernel
theorem dX1_readDrain_25 : decode cX1_readDrain 25 = .ok (.isub, 1) := by decide +kernel
theorem dX1_readDrain_26 : decode cX1_readDrain 26 = .ok (.invokevirtual 63, 3) := by decide +kernel
theorem dX1_readDrain_29 : decode cX1_readDrain 29 = .ok (.istore_n 1, 1) := by decide +kernel
theorem dX1_readDrain_30 : decode cX1_readDrain 30 = .ok (.aload_n 0, 1) := by decide +kernel
theorem dX1_readDrain_31 : decode cX1_readDrain 31 = .ok (.iload_n 1, 1) := by decide +kernel
theorem dX1_readDrain_32 : decode cX1_readDrain 32 = .ok (.invokevirtual 108, 3) := by decide +kernel
theorem dX1_readDrain_35 : decode cX1_readDrain 35 = .ok (.istore_n 2, 1) := by decide +kernel
theorem dX1_readDrain_36 : decode cX1_readDrain 36 = .ok (.aload_n 0, 1) := by decide +kernel
theorem dX1_readDrain_37 : decode cX1_readDrain 37 = .ok (.getfield 18, 3) := by decide +kernel
theorem dX1_readDrain_40 : decode cX1_readDrain 40 = .ok (.iconst 1, 1) := by decide +kernel
theorem dX1_readDrain_41 : decode cX1_readDrain 41 = .ok (.bipush 99, 2) := by decide +kernel
theorem dX1_readDrain_43 : decode cX1_readDrain 43 = .ok (.invokevirtual 63, 3) := by decide +kernel
theorem dX1_readDrain_46 : decode cX1_readDrain 46 = .ok (.istore_n 3, 1) := by decide +kernel
theorem dX1_readDrain_47 : decode cX1_readDrain 47 = .ok (.aload_n 0, 1) := by decide +kernel
theorem dX1_readDrain_48 : decode cX1_readDrain 48 = .ok (.getfield 18, 3) := by decide +kernel
theorem dX1_readDrain_51 : decode cX1_readDrain 51 = .ok (.iconst 0, 1) := by decide +kernel
theorem dX1_readDrain_52 : decode cX1_readDrain 52 = .ok (.bipush 99, 2) := by decide +kernel
theorem dX1_readDrain_54 : decode cX1_readDrain 54 = .ok (.invokevirtual 63, 3) := by decide +kernel
theorem dX1_readDrain_57 : decode cX1_readDrain 57 = .ok (.istore 4, 2) := by decide +kernel
theorem dX1_readDrain_59 : decode cX1_readDrain 59 = .ok (.aload_n 0, 1) := by decide +kernel
theorem dX1_readDrain_60 : decode cX1_readDrain 60 = .ok (.getfield 18, 3) := by decide +kernel
theorem dX1_readDrain_63 : decode cX1_readDrain 63 = .ok (.bipush 59, 2) := by decide +kernel
theorem dX1_readDrain_65 : decode cX1_readDrain 65 = .ok (.invokevirtual 92, 3) := by decide +kernel
theorem dX1_readDrain_68 : decode cX1_readDrain 68 = .ok (.aload_n 0, 1) := by decide +kernel
theorem dX1_readDrain_69 : decode cX1_readDrain 69 = .ok (.getfield 18, 3) := by decide +kernel
theorem dX1_readDrain_72 : decode cX1_readDrain 72 = .ok (.getfield 112, 3) := by decide +kernel
theorem dX1_readDrain_75 : decode cX1_readDrain 75 = .ok (.ifCond .ne 15, 3) := by decide +kernel
theorem dX1_readDrain_78 : decode cX1_readDrain 78 = .ok (.aload_n 0, 1) := by decide +kernel
theorem dX1_readDrain_79 : decode cX1_readDrain 79 = .ok (.getfield 12, 3) := by decide +kernel
theorem dX1_readDrain_82 : decode cX1_readDrain 82 = .ok (.iload_n 1, 1) := by decide +kernel
theorem dX1_readDrain_83 : decode cX1_readDrain 83 = .ok (.iload_n 2, 1) := by decide +kernel
theorem dX1_readDrain_84 : decode cX1_readDrain 84 = .ok (.iload_n 3, 1) := by decide +kernel
theorem dX1_readDrain_85 : decode cX1_readDrain 85 = .ok (.iload 4, 2) := by decide +kernel
theorem dX1_readDrain_87 : decode cX1_readDrain 87 = .ok (.invokevirtual 115, 3) := by decide +kernel
theorem dX1_readDrain_90 : decode cX1_readDrain 90 = .ok (.return_, 1) := by decide +kernel
theorem dX1_readTap_0 : decode cX1_readTap 0 = .ok (.aload_n 0, 1) := by decide +kernel
theorem dX1_readTap_1 : decode cX1_readTap 1 = .ok (.aload_n 0, 1) := by decide +kernel
theorem dX1_readTap_2 : decode cX1_readTap 2 = .ok (.getfield 12, 3) := by decide +kernel
theorem dX1_readTap_5 : decode cX1_readTap 5 = .ok (.getfield 119, 3) := by decide +kernel
theorem dX1_readTap_8 : decode cX1_readTap 8 = .ok (.iconst 5, 1) := by decide +kernel
theorem dX1_readTap_9 : decode cX1_readTap 9 = .ok (.invokevirtual 102, 3) := by decide +kernel
theorem dX1_readTap_12 : decode cX1_readTap 12 = .ok (.aload_n 0, 1) := by decide +kernel
theorem dX1_readTap_13 : decode cX1_readTap 13 = .ok (.getfield 18, 3) := by decide +kernel
theorem dX1_readTap_16 : decode cX1_readTap 16 = .ok (.iconst 0, 1) := by decide +kernel
theorem dX1_readTap_17 : decode cX1_readTap 17 = .ok (.aload_n 0, 1) := by decide +kernel
theorem dX1_readTap_18 : decode cX1_readTap 18 = .ok (.getfield 12, 3) := by decide +kernel
theorem dX1_readTap_21 : decode cX1_readTap 21 = .ok (.getfield 105, 3) := by decide +kernel
theorem dX1_readTap_24 : decode cX1_readTap 24 = .ok (.iconst 1, 1) := by decide +kernel
theorem dX1_readTap_25 : decode cX1_readTap 25 = .ok (.isub, 1) := by decide +kernel
theorem dX1_readTap_26 : decode cX1_readTap 26 = .ok (.invokevirtual 63, 3) := by decide +kernel
theorem dX1_readTap_29 : decode cX1_readTap 29 = .ok (.istore_n 1, 1) := by decide +kernel
theorem dX1_readTap_30 : decode cX1_readTap 30 = .ok (.aload_n 0, 1) := by decide +kernel
theorem dX1_readTap_31 : decode cX1_readTap 31 = .ok (.iload_n 1, 1) := by decide +kernel
theorem dX1_readTap_32 : decode cX1_readTap 32 = .ok (.invokevirtual 108, 3) := by decide +kernel
theorem dX1_readTap_35 : decode cX1_readTap 35 = .ok (.istore_n 2, 1) := by decide +kernel
theorem dX1_readTap_36 : decode cX1_readTap 36 = .ok (.aload_n 0, 1) := by decide +kernel
theorem dX1_readTap_37 : decode cX1_readTap 37 = .ok (.getfield 18, 3) := by decide +kernel
theorem dX1_readTap_40 : decode cX1_readTap 40 = .ok (.iconst 0, 1) := by decide +kernel
theorem dX1_readTap_41 : decode cX1_readTap 41 = .ok (.bipush 99, 2) := by decide +kernel
theorem dX1_readTap_43 : decode cX1_readTap 43 = .ok (.invokevirtual 63, 3) := by decide +kernel
theorem dX1_readTap_46 : decode cX1_readTap 46 = .ok (.istore_n 3, 1) := by decide +kernel
theorem dX1_readTap_47 : decode cX1_readTap 47 = .ok (.aload_n 0, 1) := by decide +kernel
theorem dX1_readTap_48 : decode cX1_readTap 48 = .ok (.getfield 18, 3) := by decide +kernel
theorem dX1_readTap_51 : decode cX1_readTap 51 = .ok (.bipush 59, 2) := by decide +kernel
theorem dX1_readTap_53 : decode cX1_readTap 53 = .ok (.invokevirtual 92, 3) := by decide +kernel
theorem dX1_readTap_56 : decode cX1_readTap 56 = .ok (.aload_n 0, 1) := by decide +kernel
theorem dX1_readTap_57 : decode cX1_readTap 57 = .ok (.getfield 18, 3) := by decide +kernel
theorem dX1_readTap_60 : decode cX1_readTap 60 = .ok (.getfield 112, 3) := by decide +kernel
theorem dX1_readTap_63 : decode cX1_readTap 63 = .ok (.ifCond .ne 13, 3) := by decide +kernel
theorem dX1_readTap_66 : decode cX1_readTap 66 = .ok (.aload_n 0, 1) := by decide +kernel
theorem dX1_readTap_67 : decode cX1_readTap 67 = .ok (.getfield 12, 3) := by decide +kernel
theorem dX1_readTap_70 : decode cX1_readTap 70 = .ok (.iload_n 1, 1) := by decide +kernel
theorem dX1_readTap_71 : decode cX1_readTap 71 = .ok (.iload_n 2, 1) := by decide +kernel
theorem dX1_readTap_72 : decode cX1_readTap 72 = .ok (.iload_n 3, 1) := by decide +kernel
theorem dX1_readTap_73 : decode cX1_readTap 73 = .ok (.invokevirtual 122, 3) := by decide +kernel
theorem dX1_readTap_76 : decode cX1_readTap 76 = .ok (.return_, 1) := by decide +kernel
theorem dX1_readBoat_0 : decode cX1_readBoat 0 = .ok (.aload_n 0, 1) := by decide +kernel
theorem dX1_readBoat_1 : decode cX1_readBoat 1 = .ok (.aload_n 0, 1) := by decide +kernel
theorem dX1_readBoat_2 : decode cX1_readBoat 2 = .ok (.getfield 12, 3) := by decide +kernel
theorem dX1_readBoat_5 : decode cX1_readBoat 5 = .ok (.getfield 126, 3) := by decide +kernel
theorem dX1_readBoat_8 : decode cX1_readBoat 8 = .ok (.bipush 12, 2) := by decide +kernel
theorem dX1_readBoat_10 : decode cX1_readBoat 10 = .ok (.invokevirtual 102, 3) := by decide +kernel
theorem dX1_readBoat_13 : decode cX1_readBoat 13 = .ok (.aload_n 0, 1) := by decide +kernel
theorem dX1_readBoat_14 : decode cX1_readBoat 14 = .ok (.getfield 18, 3) := by decide +kernel
theorem dX1_readBoat_17 : decode cX1_readBoat 17 = .ok (.iconst 0, 1) := by decide +kernel
theorem dX1_readBoat_18 : decode cX1_readBoat 18 = .ok (.aload_n 0, 1) := by decide +kernel
theorem dX1_readBoat_19 : decode cX1_readBoat 19 = .ok (.getfield 12, 3) := by decide +kernel
theorem dX1_readBoat_22 : decode cX1_readBoat 22 = .ok (.getfield 105, 3) := by decide +kernel
theorem dX1_readBoat_25 : decode cX1_readBoat 25 = .ok (.iconst 1, 1) := by decide +kernel
theorem dX1_readBoat_26 : decode cX1_readBoat 26 = .ok (.isub, 1) := by decide +kernel
theorem dX1_readBoat_27 : decode cX1_readBoat 27 = .ok (.invokevirtual 63, 3) := by decide +kernel
theorem dX1_readBoat_30 : decode cX1_readBoat 30 = .ok (.istore_n 1, 1) := by decide +kernel
theorem dX1_readBoat_31 : decode cX1_readBoat 31 = .ok (.aload_n 0, 1) := by decide +kernel
theorem dX1_readBoat_32 : decode cX1_readBoat 32 = .ok (.getfield 18, 3) := by decide +kernel
theorem dX1_readBoat_35 : decode cX1_readBoat 35 = .ok (.iconst 0, 1) := by decide +kernel
theorem dX1_readBoat_36 : decode cX1_readBoat 36 = .ok (.aload_n 0, 1) := by decide +kernel
theorem dX1_readBoat_37 : decode cX1_readBoat 37 = .ok (.getfield 12, 3) := by decide +kernel
theorem dX1_readBoat_40 : decode cX1_readBoat 40 = .ok (.getfield 129, 3) := by decide +kernel
theorem dX1_readBoat_43 : decode cX1_readBoat 43 = .ok (.iconst 1, 1) := by decide +kernel
theorem dX1_readBoat_44 : decode cX1_readBoat 44 = .ok (.isub, 1) := by decide +kernel
theorem dX1_readBoat_45 : decode cX1_readBoat 45 = .ok (.invokevirtual 132, 3) := by decide +kernel
theorem dX1_readBoat_48 : decode cX1_readBoat 48 = .ok (.istore_n 2, 1) := by decide +kernel
theorem dX1_readBoat_49 : decode cX1_readBoat 49 = .ok (.aload_n 0, 1) := by decide +kernel
theorem dX1_readBoat_50 : decode cX1_readBoat 50 = .ok (.aload_n 0, 1) := by decide +kernel
theorem dX1_readBoat_51 : decode cX1_readBoat 51 = .ok (.getfield 12, 3) := by decide +kernel
theorem dX1_readBoat_54 : decode cX1_readBoat 54 = .ok (.getfield 135, 3) := by decide +kernel
theorem dX1_readBoat_57 : decode cX1_readBoat 57 = .ok (.aload_n 0, 1) := by decide +kernel
theorem dX1_readBoat_58 : decode cX1_readBoat 58 = .ok (.getfield 12, 3) := by decide +kernel
theorem dX1_readBoat_61 : decode cX1_readBoat 61 = .ok (.iload_n 1, 1) := by decide +kernel
theorem dX1_readBoat_62 : decode cX1_readBoat 62 = .ok (.iload_n 2, 1) := by decide +kernel
theorem dX1_readBoat_63 : decode cX1_readBoat 63 = .ok (.invokevirtual 139, 3) := by decide +kernel
theorem dX1_readBoat_66 : decode cX1_readBoat 66 = .ok (.invokevirtual 142, 3) := by decide +kernel
theorem dX1_readBoat_69 : decode cX1_readBoat 69 = .ok (.iconst (-1), 1) := by decide +kernel
theorem dX1_readBoat_70 : decode cX1_readBoat 70 = .ok (.if_icmp .eq 7, 3) := by decide +kernel
theorem dX1_readBoat_73 : decode cX1_readBoat 73 = .ok (.iconst 1, 1) := by decide +kernel
theorem dX1_readBoat_74 : decode cX1_readBoat 74 = .ok (.goto 4, 3) := by decide +kernel
theorem dX1_readBoat_77 : decode cX1_readBoat 77 = .ok (.iconst 0, 1) := by decide +kernel
theorem dX1_readBoat_78 : decode cX1_readBoat 78 = .ok (.invokevirtual 147, 3) := by decide +kernel
theorem dX1_readBoat_81 : decode cX1_readBoat 81 = .ok (.aload_n 0, 1) := by decide +kernel
theorem dX1_readBoat_82 : decode cX1_readBoat 82 = .ok (.getfield 18, 3) := by decide +kernel
theorem dX1_readBoat_85 : decode cX1_readBoat 85 = .ok (.iconst 1, 1) := by decide +kernel
theorem dX1_readBoat_86 : decode cX1_readBoat 86 = .ok (.bipush 99, 2) := by decide +kernel
theorem dX1_readBoat_88 : decode cX1_readBoat 88 = .ok (.invokevirtual 63, 3) := by decide +kernel
theorem dX1_readBoat_91 : decode cX1_readBoat 91 = .ok (.istore_n 3, 1) := by decide +kernel
theorem dX1_readBoat_92 : decode cX1_readBoat 92 = .ok (.aload_n 0, 1) := by decide +kernel
theorem dX1_readBoat_93 : decode cX1_readBoat 93 = .ok (.getfield 18, 3) := by decide +kernel
theorem dX1_readBoat_96 : decode cX1_readBoat 96 = .ok (.iconst 1, 1) := by decide +kernel
theorem dX1_readBoat_97 : decode cX1_readBoat 97 = .ok (.sipush 999, 3) := by decide +kernel
theorem dX1_readBoat_100 : decode cX1_readBoat 100 = .ok (.invokevirtual 63, 3) := by decide +kernel
theorem dX1_readBoat_103 : decode cX1_readBoat 103 = .ok (.istore 4, 2) := by decide +kernel
theorem dX1_readBoat_105 : decode cX1_readBoat 105 = .ok (.aload_n 0, 1) := by decide +kernel
theorem dX1_readBoat_106 : decode cX1_readBoat 106 = .ok (.getfield 18, 3) := by decide +kernel
theorem dX1_readBoat_109 : decode cX1_readBoat 109 = .ok (.ldc 151, 2) := by decide +kernel
theorem dX1_readBoat_111 : decode cX1_readBoat 111 = .ok (.invokevirtual 60, 3) := by decide +kernel
theorem dX1_readBoat_114 : decode cX1_readBoat 114 = .ok (.ifCond .eq 16, 3) := by decide +kernel
theorem dX1_readBoat_117 : decode cX1_readBoat 117 = .ok (.aload_n 0, 1) := by decide +kernel
theorem dX1_readBoat_118 : decode cX1_readBoat 118 = .ok (.getfield 18, 3) := by decide +kernel
theorem dX1_readBoat_121 : decode cX1_readBoat 121 = .ok (.iconst 0, 1) := by decide +kernel
theorem dX1_readBoat_122 : decode cX1_readBoat 122 = .ok (.iload 4, 2) := by decide +kernel
theorem dX1_readBoat_124 : decode cX1_readBoat 124 = .ok (.invokevirtual 63, 3) := by decide +kernel
theorem dX1_readBoat_127 : decode cX1_readBoat 127 = .ok (.goto 4, 3) := by decide +kernel
theorem dX1_readBoat_130 : decode cX1_readBoat 130 = .ok (.iconst 0, 1) := by decide +kernel
theorem dX1_readBoat_131 : decode cX1_readBoat 131 = .ok (.istore 5, 2) := by decide +kernel
theorem dX1_readBoat_133 : decode cX1_readBoat 133 = .ok (.aload_n 0, 1) := by decide +kernel
theorem dX1_readBoat_134 : decode cX1_readBoat 134 = .ok (.getfield 18, 3) := by decide +kernel
theorem dX1_readBoat_137 : decode cX1_readBoat 137 = .ok (.bipush 59, 2) := by decide +kernel
theorem dX1_readBoat_139 : decode cX1_readBoat 139 = .ok (.invokevirtual 92, 3) := by decide +kernel
theorem dX1_readBoat_142 : decode cX1_readBoat 142 = .ok (.aload_n 0, 1) := by decide +kernel
theorem dX1_readBoat_143 : decode cX1_readBoat 143 = .ok (.getfield 18, 3) := by decide +kernel
theorem dX1_readBoat_146 : decode cX1_readBoat 146 = .ok (.getfield 112, 3) := by decide +kernel
theorem dX1_readBoat_149 : decode cX1_readBoat 149 = .ok (.ifCond .ne 37, 3) := by decide +kernel
theorem dX1_readBoat_152 : decode cX1_readBoat 152 = .ok (.aload_n 0, 1) := by decide +kernel
theorem dX1_readBoat_153 : decode cX1_readBoat 153 = .ok (.getfield 12, 3) := by decide +kernel
theorem dX1_readBoat_156 : decode cX1_readBoat 156 = .ok (.iload_n 1, 1) := by decide +kernel
theorem dX1_readBoat_157 : decode cX1_readBoat 157 = .ok (.iload_n 2, 1) := by decide +kernel
theorem dX1_readBoat_158 : decode cX1_readBoat 158 = .ok (.iload_n 3, 1) := by decide +kernel
theorem dX1_readBoat_159 : decode cX1_readBoat 159 = .ok (.iload 4, 2) := by decide +kernel
theorem dX1_readBoat_161 : decode cX1_readBoat 161 = .ok (.invokevirtual 153, 3) := by decide +kernel
theorem dX1_readBoat_164 : decode cX1_readBoat 164 = .ok (.aload_n 0, 1) := by decide +kernel
theorem dX1_readBoat_165 : decode cX1_readBoat 165 = .ok (.getfield 12, 3) := by decide +kernel
theorem dX1_readBoat_168 : decode cX1_readBoat 168 = .ok (.getfield 156, 3) := by decide +kernel
theorem dX1_readBoat_171 : decode cX1_readBoat 171 = .ok (.aload_n 0, 1) := by decide +kernel
theorem dX1_readBoat_172 : decode cX1_readBoat 172 = .ok (.getfield 12, 3) := by decide +kernel
theorem dX1_readBoat_175 : decode cX1_readBoat 175 = .ok (.getfield 126, 3) := by decide +kernel
theorem dX1_readBoat_178 : decode cX1_readBoat 178 = .ok (.iconst 1, 1) := by decide +kernel
theorem dX1_readBoat_179 : decode cX1_readBoat 179 = .ok (.isub, 1) := by decide +kernel
theorem dX1_readBoat_180 : decode cX1_readBoat 180 = .ok (.iconst 4, 1) := by decide +kernel
theorem dX1_readBoat_181 : decode cX1_readBoat 181 = .ok (.iload 5, 2) := by decide +kernel
theorem dX1_readBoat_183 : decode cX1_readBoat 183 = .ok (.invokevirtual 160, 3) := by decide +kernel
theorem dX1_readBoat_186 : decode cX1_readBoat 186 = .ok (.return_, 1) := by decide +kernel
theorem dX1_readSoap_0 : decode cX1_readSoap 0 = .ok (.aload_n 0, 1) := by decide +kernel
theorem dX1_readSoap_1 : decode cX1_readSoap 1 = .ok (.getfield 18, 3) := by decide +kernel
theorem dX1_readSoap_4 : decode cX1_readSoap 4 = .ok (.invokevirtual 165, 3) := by decide +kernel
theorem dX1_readSoap_7 : decode cX1_readSoap 7 = .ok (.aload_n 0, 1) := by decide +kernel
theorem dX1_readSoap_8 : decode cX1_readSoap 8 = .ok (.getfield 18, 3) := by decide +kernel
theorem dX1_readSoap_11 : decode cX1_readSoap 11 = .ok (.iconst 0, 1) := by decide +kernel
theorem dX1_readSoap_12 : decode cX1_readSoap 12 = .ok (.aload_n 0, 1) := by decide +kernel
theorem dX1_readSoap_13 : decode cX1_readSoap 13 = .ok (.getfield 12, 3) := by decide +kernel
theorem dX1_readSoap_16 : decode cX1_readSoap 16 = .ok (.getfield 105, 3) := by decide +kernel
theorem dX1_readSoap_19 : decode cX1_readSoap 19 = .ok (.iconst 1, 1) := by decide +kernel
theorem dX1_readSoap_20 : decode cX1_readSoap 20 = .ok (.isub, 1) := by decide +kernel
theorem dX1_readSoap_21 : decode cX1_readSoap 21 = .ok (.invokevirtual 63, 3) := by decide +kernel
theorem dX1_readSoap_24 : decode cX1_readSoap 24 = .ok (.istore_n 1, 1) := by decide +kernel
theorem dX1_readSoap_25 : decode cX1_readSoap 25 = .ok (.aload_n 0, 1) := by decide +kernel
theorem dX1_readSoap_26 : decode cX1_readSoap 26 = .ok (.getfield 18, 3) := by decide +kernel
theorem dX1_readSoap_29 : decode cX1_readSoap 29 = .ok (.iconst 0, 1) := by decide +kernel
theorem dX1_readSoap_30 : decode cX1_readSoap 30 = .ok (.aload_n 0, 1) := by decide +kernel
theorem dX1_readSoap_31 : decode cX1_readSoap 31 = .ok (.getfield 12, 3) := by decide +kernel
theorem dX1_readSoap_34 : decode cX1_readSoap 34 = .ok (.getfield 129, 3) := by decide +kernel
theorem dX1_readSoap_37 : decode cX1_readSoap 37 = .ok (.iconst 1, 1) := by decide +kernel
theorem dX1_readSoap_38 : decode cX1_readSoap 38 = .ok (.isub, 1) := by decide +kernel
theorem dX1_readSoap_39 : decode cX1_readSoap 39 = .ok (.invokevirtual 63, 3) := by decide +kernel
theorem dX1_readSoap_42 : decode cX1_readSoap 42 = .ok (.istore_n 2, 1) := by decide +kernel
theorem dX1_readSoap_43 : decode cX1_readSoap 43 = .ok (.aload_n 0, 1) := by decide +kernel
theorem dX1_readSoap_44 : decode cX1_readSoap 44 = .ok (.getfield 18, 3) := by decide +kernel
theorem dX1_readSoap_47 : decode cX1_readSoap 47 = .ok (.iconst 1, 1) := by decide +kernel
theorem dX1_readSoap_48 : decode cX1_readSoap 48 = .ok (.bipush 99, 2) := by decide +kernel
theorem dX1_readSoap_50 : decode cX1_readSoap 50 = .ok (.invokevirtual 63, 3) := by decide +kernel
theorem dX1_readSoap_53 : decode cX1_readSoap 53 = .ok (.istore_n 3, 1) := by decide +kernel
theorem dX1_readSoap_54 : decode cX1_readSoap 54 = .ok (.aload_n 0, 1) := by decide +kernel
theorem dX1_readSoap_55 : decode cX1_readSoap 55 = .ok (.getfield 18, 3) := by decide +kernel
theorem dX1_readSoap_58 : decode cX1_readSoap 58 = .ok (.bipush 59, 2) := by decide +kernel
theorem dX1_readSoap_60 : decode cX1_readSoap 60 = .ok (.invokevirtual 92, 3) := by decide +kernel
theorem dX1_readSoap_63 : decode cX1_readSoap 63 = .ok (.aload_n 0, 1) := by decide +kernel
theorem dX1_readSoap_64 : decode cX1_readSoap 64 = .ok (.getfield 12, 3) := by decide +kernel
theorem dX1_readSoap_67 : decode cX1_readSoap 67 = .ok (.getfield 168, 3) := by decide +kernel
theorem dX1_readSoap_70 : decode cX1_readSoap 70 = .ok (.aload_n 0, 1) := by decide +kernel
theorem dX1_readSoap_71 : decode cX1_readSoap 71 = .ok (.getfield 12, 3) := by decide +kernel
theorem dX1_readSoap_74 : decode cX1_readSoap 74 = .ok (.iload_n 1, 1) := by decide +kernel
theorem dX1_readSoap_75 : decode cX1_readSoap 75 = .ok (.iload_n 2, 1) := by decide +kernel
theorem dX1_readSoap_76 : decode cX1_readSoap 76 = .ok (.invokevirtual 139, 3) := by decide +kernel
theorem dX1_readSoap_79 : decode cX1_readSoap 79 = .ok (.iload_n 3, 1) := by decide +kernel
theorem dX1_readSoap_80 : decode cX1_readSoap 80 = .ok (.invokevirtual 171, 3) := by decide +kernel
theorem dX1_readSoap_83 : decode cX1_readSoap 83 = .ok (.return_, 1) := by decide +kernel
theorem dX1_readKeyword_0 : decode cX1_readKeyword 0 = .ok (.iload_n 1, 1) := by decide +kernel
theorem dX1_readKeyword_1 : decode cX1_readKeyword 1 = .ok (.iload_n 2, 1) := by decide +kernel
theorem dX1_readKeyword_2 : decode cX1_readKeyword 2 = .ok (.if_icmp .lt 11, 3) := by decide +kernel
theorem dX1_readKeyword_5 : decode cX1_readKeyword 5 = .ok (.aload_n 0, 1) := by decide +kernel
theorem dX1_readKeyword_6 : decode cX1_readKeyword 6 = .ok (.getfield 18, 3) := by decide +kernel
theorem dX1_readKeyword_9 : decode cX1_readKeyword 9 = .ok (.iconst 3, 1) := by decide +kernel
theorem dX1_readKeyword_10 : decode cX1_readKeyword 10 = .ok (.invokevirtual 55, 3) := by decide +kernel
theorem dX1_readKeyword_13 : decode cX1_readKeyword 13 = .ok (.aload_n 0, 1) := by decide +kernel
theorem dX1_readKeyword_14 : decode cX1_readKeyword 14 = .ok (.getfield 18, 3) := by decide +kernel
theorem dX1_readKeyword_17 : decode cX1_readKeyword 17 = .ok (.invokevirtual 165, 3) := by decide +kernel
theorem dX1_readKeyword_20 : decode cX1_readKeyword 20 = .ok (.return_, 1) := by decide +kernel
theorem dX1_readRowForSource_0 : decode cX1_readRowForSource 0 = .ok (.aload_n 0, 1) := by decide +kernel
theorem dX1_readRowForSource_1 : decode cX1_readRowForSource 1 = .ok (.getfield 18, 3) := by decide +kernel
theorem dX1_readRowForSource_4 : decode cX1_readRowForSource 4 = .ok (.iconst 0, 1) := by decide +kernel
theorem dX1_readRowForSource_5 : decode cX1_readRowForSource 5 = .ok (.aload_n 0, 1) := by decide +kernel
theorem dX1_readRowForSource_6 : decode cX1_readRowForSource 6 = .ok (.getfield 12, 3) := by decide +kernel
theorem dX1_readRowForSource_9 : decode cX1_readRowForSource 9 = .ok (.getfield 129, 3) := by decide +kernel
theorem dX1_readRowForSource_12 : decode cX1_readRowForSource 12 = .ok (.iconst 1, 1) := by decide +kernel
theorem dX1_readRowForSource_13 : decode cX1_readRowForSource 13 = .ok (.isub, 1) := by decide +kernel
theorem dX1_readRowForSource_14 : decode cX1_readRowForSource 14 = .ok (.invokevirtual 132, 3) := by decide +kernel
theorem dX1_readRowForSource_17 : decode cX1_readRowForSource 17 = .ok (.istore_n 2, 1) := by decide +kernel
theorem dX1_readRowForSource_18 : decode cX1_readRowForSource 18 = .ok (.aload_n 0, 1) := by decide +kernel
theorem dX1_readRowForSource_19 : decode cX1_readRowForSource 19 = .ok (.getfield 12, 3) := by decide +kernel
theorem dX1_readRowForSource_22 : decode cX1_readRowForSource 22 = .ok (.iload_n 1, 1) := by decide +kernel
theorem dX1_readRowForSource_23 : decode cX1_readRowForSource 23 = .ok (.iload_n 2, 1) := by decide +kernel
theorem dX1_readRowForSource_24 : decode cX1_readRowForSource 24 = .ok (.invokevirtual 139, 3) := by decide +kernel
theorem dX1_readRowForSource_27 : decode cX1_readRowForSource 27 = .ok (.istore_n 3, 1) := by decide +kernel
theorem dX1_readRowForSource_28 : decode cX1_readRowForSource 28 = .ok (.aload_n 0, 1) := by decide +kernel
theorem dX1_readRowForSource_29 : decode cX1_readRowForSource 29 = .ok (.aload_n 0, 1) := by decide +kernel
theorem dX1_readRowForSource_30 : decode cX1_readRowForSource 30 = .ok (.getfield 12, 3) := by decide +kernel
theorem dX1_readRowForSource_33 : decode cX1_readRowForSource 33 = .ok (.iload_n 3, 1) := by decide +kernel
theorem dX1_readRowForSource_34 : decode cX1_readRowForSource 34 = .ok (.invokevirtual 173, 3) := by decide +kernel
theorem dX1_readRowForSource_37 : decode cX1_readRowForSource 37 = .ok (.iconst (-1), 1) := by decide +kernel
theorem dX1_readRowForSource_38 : decode cX1_readRowForSource 38 = .ok (.if_icmp .ne 15, 3) := by decide +kernel
theorem dX1_readRowForSource_41 : decode cX1_readRowForSource 41 = .ok (.aload_n 0, 1) := by decide +kernel
theorem dX1_readRowForSource_42 : decode cX1_readRowForSource 42 = .ok (.getfield 12, 3) := by decide +kernel
theorem dX1_readRowForSource_45 : decode cX1_readRowForSource 45 = .ok (.iload_n 3, 1) := by decide +kernel
theorem dX1_readRowForSource_46 : decode cX1_readRowForSource 46 = .ok (.invokevirtual 176, 3) := by decide +kernel
theorem dX1_readRowForSource_49 : decode cX1_readRowForSource 49 = .ok (.iconst (-1), 1) := by decide +kernel
theorem dX1_readRowForSource_50 : decode cX1_readRowForSource 50 = .ok (.if_icmp .eq 7, 3) := by decide +kernel
theorem dX1_readRowForSource_53 : decode cX1_readRowForSource 53 = .ok (.iconst 1, 1) := by decide +kernel
theorem dX1_readRowForSource_54 : decode cX1_readRowForSource 54 = .ok (.goto 4, 3) := by decide +kernel
theorem dX1_readRowForSource_57 : decode cX1_readRowForSource 57 = .ok (.iconst 0, 1) := by decide +kernel
theorem dX1_readRowForSource_58 : decode cX1_readRowForSource 58 = .ok (.invokevirtual 147, 3) := by decide +kernel
theorem dX1_readRowForSource_61 : decode cX1_readRowForSource 61 = .ok (.iload_n 2, 1) := by decide +kernel
theorem dX1_readRowForSource_62 : decode cX1_readRowForSource 62 = .ok (.ireturn, 1) := by decide +kernel
theorem dX1_readRowEnd_0 : decode cX1_readRowEnd 0 = .ok (.iload_n 1, 1) := by decide +kernel
theorem dX1_readRowEnd_1 : decode cX1_readRowEnd 1 = .ok (.ifCond .eq 11, 3) := by decide +kernel
theorem dX1_readRowEnd_4 : decode cX1_readRowEnd 4 = .ok (.aload_n 0, 1) := by decide +kernel
theorem dX1_readRowEnd_5 : decode cX1_readRowEnd 5 = .ok (.getfield 18, 3) := by decide +kernel
theorem dX1_readRowEnd_8 : decode cX1_readRowEnd 8 = .ok (.iconst 4, 1) := by decide +kernel
theorem dX1_readRowEnd_9 : decode cX1_readRowEnd 9 = .ok (.invokevirtual 55, 3) := by decide +kernel
theorem dX1_readRowEnd_12 : decode cX1_readRowEnd 12 = .ok (.aload_n 0, 1) := by decide +kernel
theorem dX1_readRowEnd_13 : decode cX1_readRowEnd 13 = .ok (.getfield 18, 3) := by decide +kernel
theorem dX1_readRowEnd_16 : decode cX1_readRowEnd 16 = .ok (.invokevirtual 165, 3) := by decide +kernel
theorem dX1_readRowEnd_19 : decode cX1_readRowEnd 19 = .ok (.return_, 1) := by decide +kernel
theorem dX2_init_0 : decode cX2_init 0 = .ok (.aload_n 0, 1) := by decide +kernel
theorem dX2_init_1 : decode cX2_init 1 = .ok (.invokespecial 3, 3) := by decide +kernel
theorem dX2_init_4 : decode cX2_init 4 = .ok (.aload_n 0, 1) := by decide +kernel
theorem dX2_init_5 : decode cX2_init 5 = .ok (.new 9, 3) := by decide +kernel
theorem dX2_init_8 : decode cX2_init 8 = .ok (.dup, 1) := by decide +kernel
theorem dX2_init_9 : decode cX2_init 9 = .ok (.bipush 100, 2) := by decide +kernel
theorem dX2_init_11 : decode cX2_init 11 = .ok (.iconst 0, 1) := by decide +kernel
theorem dX2_init_12 : decode cX2_init 12 = .ok (.invokespecial 13, 3) := by decide +kernel
theorem dX2_init_15 : decode cX2_init 15 = .ok (.putfield 16, 3) := by decide +kernel
theorem dX2_init_18 : decode cX2_init 18 = .ok (.return_, 1) := by decide +kernel
theorem dX2_measure_0 : decode cX2_measure 0 = .ok (.aload_n 0, 1) := by decide +kernel
theorem dX2_measure_1 : decode cX2_measure 1 = .ok (.fconst 0, 1) := by decide +kernel
theorem dX2_measure_2 : decode cX2_measure 2 = .ok (.putfield 20, 3) := by decide +kernel
theorem dX2_measure_5 : decode cX2_measure 5 = .ok (.aload_n 0, 1) := by decide +kernel
theorem dX2_measure_6 : decode cX2_measure 6 = .ok (.fconst 0, 1) := by decide +kernel
theorem dX2_measure_7 : decode cX2_measure 7 = .ok (.putfield 24, 3) := by decide +kernel
theorem dX2_measure_10 : decode cX2_measure 10 = .ok (.iconst 0, 1) := by decide +kernel
theorem dX2_measure_11 : decode cX2_measure 11 = .ok (.istore 4, 2) := by decide +kernel
theorem dX2_measure_13 : decode cX2_measure 13 = .ok (.iload 4, 2) := by decide +kernel
theorem dX2_measure_15 : decode cX2_measure 15 = .ok (.aload_n 1, 1) := by decide +kernel
theorem dX2_measure_16 : decode cX2_measure 16 = .ok (.getfield 27, 3) := by decide +kernel
theorem dX2_measure_19 : decode cX2_measure 19 = .ok (.if_icmp .ge 56, 3) := by decide +kernel
theorem dX2_measure_22 : decode cX2_measure 22 = .ok (.aload_n 1, 1) := by decide +kernel
theorem dX2_measure_23 : decode cX2_measure 23 = .ok (.iload 4, 2) := by decide +kernel
theorem dX2_measure_25 : decode cX2_measure 25 = .ok (.invokevirtual 33, 3) := by decide +kernel
theorem dX2_measure_28 : decode cX2_measure 28 = .ok (.ifCond .eq 41, 3) := by decide +kernel
theorem dX2_measure_31 : decode cX2_measure 31 = .ok (.aload_n 0, 1) := by decide +kernel
theorem dX2_measure_32 : decode cX2_measure 32 = .ok (.aload_n 1, 1) := by decide +kernel
theorem dX2_measure_33 : decode cX2_measure 33 = .ok (.getfield 37, 3) := by decide +kernel
theorem dX2_measure_36 : decode cX2_measure 36 = .ok (.iload 4, 2) := by decide +kernel
theorem dX2_measure_38 : decode cX2_measure 38 = .ok (.iconst 0, 1) := by decide +kernel
theorem dX2_measure_39 : decode cX2_measure 39 = .ok (.invokevirtual 41, 3) := by decide +kernel
theorem dX2_measure_42 : decode cX2_measure 42 = .ok (.iload_n 2, 1) := by decide +kernel
theorem dX2_measure_43 : decode cX2_measure 43 = .ok (.isub, 1) := by decide +kernel
theorem dX2_measure_44 : decode cX2_measure 44 = .ok (.aload_n 1, 1) := by decide +kernel
theorem dX2_measure_45 : decode cX2_measure 45 = .ok (.getfield 37, 3) := by decide +kernel
theorem dX2_measure_48 : decode cX2_measure 48 = .ok (.iload 4, 2) := by decide +kernel
theorem dX2_measure_50 : decode cX2_measure 50 = .ok (.iconst 1, 1) := by decide +kernel
theorem dX2_measure_51 : decode cX2_measure 51 = .ok (.invokevirtual 41, 3) := by decide +kernel
theorem dX2_measure_54 : decode cX2_measure 54 = .ok (.iload_n 3, 1) := by decide +kernel
theorem dX2_measure_55 : decode cX2_measure 55 = .ok (.isub, 1) := by decide +kernel
theorem dX2_measure_56 : decode cX2_measure 56 = .ok (.aload_n 1, 1) := by decide +kernel
theorem dX2_measure_57 : decode cX2_measure 57 = .ok (.getfield 37, 3) := by decide +kernel
theorem dX2_measure_60 : decode cX2_measure 60 = .ok (.iload 4, 2) := by decide +kernel
theorem dX2_measure_62 : decode cX2_measure 62 = .ok (.iconst 3, 1) := by decide +kernel
theorem dX2_measure_63 : decode cX2_measure 63 = .ok (.invokevirtual 41, 3) := by decide +kernel
theorem dX2_measure_66 : decode cX2_measure 66 = .ok (.invokevirtual 47, 3) := by decide +kernel
theorem dX2_measure_69 : decode cX2_measure 69 = .ok (.iinc 4 1, 3) := by decide +kernel
theorem dX2_measure_72 : decode cX2_measure 72 = .ok (.goto (-59), 3) := by decide +kernel
theorem dX2_measure_75 : decode cX2_measure 75 = .ok (.iconst 0, 1) := by decide +kernel
theorem dX2_measure_76 : decode cX2_measure 76 = .ok (.istore 4, 2) := by decide +kernel
theorem dX2_measure_78 : decode cX2_measure 78 = .ok (.iload 4, 2) := by decide +kernel
theorem dX2_measure_80 : decode cX2_measure 80 = .ok (.aload_n 1, 1) := by decide +kernel
theorem dX2_measure_81 : decode cX2_measure 81 = .ok (.getfield 51, 3) := by decide +kernel
theorem dX2_measure_84 : decode cX2_measure 84 = .ok (.if_icmp .ge 48, 3) := by decide +kernel
theorem dX2_measure_87 : decode cX2_measure 87 = .ok (.aload_n 0, 1) := by decide +kernel
theorem dX2_measure_88 : decode cX2_measure 88 = .ok (.aload_n 1, 1) := by decide +kernel
theorem dX2_measure_89 : decode cX2_measure 89 = .ok (.getfield 54, 3) := by decide +kernel
theorem dX2_measure_92 : decode cX2_measure 92 = .ok (.iload 4, 2) := by decide +kernel
theorem dX2_measure_94 : decode cX2_measure 94 = .ok (.iconst 0, 1) := by decide +kernel
theorem dX2_measure_95 : decode cX2_measure 95 = .ok (.invokevirtual 41, 3) := by decide +kernel
theorem dX2_measure_98 : decode cX2_measure 98 = .ok (.iload_n 2, 1) := by decide +kernel
theorem dX2_measure_99 : decode cX2_measure 99 = .ok (.isub, 1) := by decide +kernel
theorem dX2_measure_100 : decode cX2_measure 100 = .ok (.aload_n 1, 1) := by decide +kernel
theorem dX2_measure_101 : decode cX2_measure 101 = .ok (.getfield 54, 3) := by decide +kernel
theorem dX2_measure_104 : decode cX2_measure 104 = .ok (.iload 4, 2) := by decide +kernel
theorem dX2_measure_106 : decode cX2_measure 106 = .ok (.iconst 1, 1) := by decide +kernel
theorem dX2_measure_107 : decode cX2_measure 107 = .ok (.invokevirtual 41, 3) := by decide +kernel
theorem dX2_measure_110 : decode cX2_measure 110 = .ok (.iload_n 3, 1) := by decide +kernel
theorem dX2_measure_111 : decode cX2_measure 111 = .ok (.isub, 1) := by decide +kernel
theorem dX2_measure_112 : decode cX2_measure 112 = .ok (.aload_n 1, 1) := by decide +kernel
theorem dX2_measure_113 : decode cX2_measure 113 = .ok (.getfield 54, 3) := by decide +kernel
theorem dX2_measure_116 : decode cX2_measure 116 = .ok (.iload 4, 2) := by decide +kernel
theorem dX2_measure_118 : decode cX2_measure 118 = .ok (.iconst 2, 1) := by decide +kernel
theorem dX2_measure_119 : decode cX2_measure 119 = .ok (.invokevirtual 41, 3) := by decide +kernel
theorem dX2_measure_122 : decode cX2_measure 122 = .ok (.ineg, 1) := by decide +kernel
theorem dX2_measure_123 : decode cX2_measure 123 = .ok (.invokevirtual 47, 3) := by decide +kernel
theorem dX2_measure_126 : decode cX2_measure 126 = .ok (.iinc 4 1, 3) := by decide +kernel
theorem dX2_measure_129 : decode cX2_measure 129 = .ok (.goto (-51), 3) := by decide +kernel
theorem dX2_measure_132 : decode cX2_measure 132 = .ok (.return_, 1) := by decide +kernel
theorem dX2_contribute_0 : decode cX2_contribute 0 = .ok (.iload_n 1, 1) := by decide +kernel
theorem dX2_contribute_1 : decode cX2_contribute 1 = .ok (.iload_n 1, 1) := by decide +kernel
theorem dX2_contribute_2 : decode cX2_contribute 2 = .ok (.imul, 1) := by decide +kernel
theorem dX2_contribute_3 : decode cX2_contribute 3 = .ok (.iload_n 2, 1) := by decide +kernel
theorem dX2_contribute_4 : decode cX2_contribute 4 = .ok (.iload_n 2, 1) := by decide +kernel
theorem dX2_contribute_5 : decode cX2_contribute 5 = .ok (.imul, 1) := by decide +kernel
theorem dX2_contribute_6 : decode cX2_contribute 6 = .ok (.iadd, 1) := by decide +kernel
theorem dX2_contribute_7 : decode cX2_contribute 7 = .ok (.istore 4, 2) := by decide +kernel
theorem dX2_contribute_9 : decode cX2_contribute 9 = .ok (.iload 4, 2) := by decide +kernel
theorem dX2_contribute_11 : decode cX2_contribute 11 = .ok (.ifCond .ne 4, 3) := by decide +kernel
theorem dX2_contribute_14 : decode cX2_contribute 14 = .ok (.return_, 1) := by decide +kernel
theorem dX2_contribute_15 : decode cX2_contribute 15 = .ok (.iload_n 3, 1) := by decide +kernel
theorem dX2_contribute_16 : decode cX2_contribute 16 = .ok (.i2f, 1) := by decide +kernel
theorem dX2_contribute_17 : decode cX2_contribute 17 = .ok (.iload 4, 2) := by decide +kernel
theorem dX2_contribute_19 : decode cX2_contribute 19 = .ok (.i2f, 1) := by decide +kernel
theorem dX2_contribute_20 : decode cX2_contribute 20 = .ok (.fdiv, 1) := by decide +kernel
theorem dX2_contribute_21 : decode cX2_contribute 21 = .ok (.fstore 5, 2) := by decide +kernel
theorem dX2_contribute_23 : decode cX2_contribute 23 = .ok (.iload_n 1, 1) := by decide +kernel
theorem dX2_contribute_24 : decode cX2_contribute 24 = .ok (.invokestatic 57, 3) := by decide +kernel
theorem dX2_contribute_27 : decode cX2_contribute 27 = .ok (.iload_n 2, 1) := by decide +kernel
theorem dX2_contribute_28 : decode cX2_contribute 28 = .ok (.invokestatic 57, 3) := by decide +kernel
theorem dX2_contribute_31 : decode cX2_contribute 31 = .ok (.iadd, 1) := by decide +kernel
theorem dX2_contribute_32 : decode cX2_contribute 32 = .ok (.i2f, 1) := by decide +kernel
theorem dX2_contribute_33 : decode cX2_contribute 33 = .ok (.fstore 6, 2) := by decide +kernel
theorem dX2_contribute_35 : decode cX2_contribute 35 = .ok (.aload_n 0, 1) := by decide +kernel
theorem dX2_contribute_36 : decode cX2_contribute 36 = .ok (.dup, 1) := by decide +kernel
theorem dX2_contribute_37 : decode cX2_contribute 37 = .ok (.getfield 20, 3) := by decide +kernel
theorem dX2_contribute_40 : decode cX2_contribute 40 = .ok (.fload 5, 2) := by decide +kernel
theorem dX2_contribute_42 : decode cX2_contribute 42 = .ok (.iload_n 1, 1) := by decide +kernel
theorem dX2_contribute_43 : decode cX2_contribute 43 = .ok (.i2f, 1) := by decide +kernel
theorem dX2_contribute_44 : decode cX2_contribute 44 = .ok (.fmul, 1) := by decide +kernel
theorem dX2_contribute_45 : decode cX2_contribute 45 = .ok (.fload 6, 2) := by decide +kernel
theorem dX2_contribute_47 : decode cX2_contribute 47 = .ok (.fdiv, 1) := by decide +kernel
theorem dX2_contribute_48 : decode cX2_contribute 48 = .ok (.fadd, 1) := by decide +kernel
theorem dX2_contribute_49 : decode cX2_contribute 49 = .ok (.putfield 20, 3) := by decide +kernel
theorem dX2_contribute_52 : decode cX2_contribute 52 = .ok (.aload_n 0, 1) := by decide +kernel
theorem dX2_contribute_53 : decode cX2_contribute 53 = .ok (.dup, 1) := by decide +kernel
theorem dX2_contribute_54 : decode cX2_contribute 54 = .ok (.getfield 24, 3) := by decide +kernel
theorem dX2_contribute_57 : decode cX2_contribute 57 = .ok (.fload 5, 2) := by decide +kernel
theorem dX2_contribute_59 : decode cX2_contribute 59 = .ok (.iload_n 2, 1) := by decide +kernel
theorem dX2_contribute_60 : decode cX2_contribute 60 = .ok (.i2f, 1) := by decide +kernel
theorem dX2_contribute_61 : decode cX2_contribute 61 = .ok (.fmul, 1) := by decide +kernel
theorem dX2_contribute_62 : decode cX2_contribute 62 = .ok (.fload 6, 2) := by decide +kernel
theorem dX2_contribute_64 : decode cX2_contribute 64 = .ok (.fdiv, 1) := by decide +kernel
theorem dX2_contribute_65 : decode cX2_contribute 65 = .ok (.fadd, 1) := by decide +kernel
theorem dX2_contribute_66 : decode cX2_contribute 66 = .ok (.putfield 24, 3) := by decide +kernel
theorem dX2_contribute_69 : decode cX2_contribute 69 = .ok (.return_, 1) := by decide +kernel
theorem dX2_forceIn_0 : decode cX2_forceIn 0 = .ok (.aload_n 0, 1) := by decide +kernel
theorem dX2_forceIn_1 : decode cX2_forceIn 1 = .ok (.aload_n 1, 1) := by decide +kernel
theorem dX2_forceIn_2 : decode cX2_forceIn 2 = .ok (.iload_n 2, 1) := by decide +kernel
theorem dX2_forceIn_3 : decode cX2_forceIn 3 = .ok (.iload_n 3, 1) := by decide +kernel
theorem dX2_forceIn_4 : decode cX2_forceIn 4 = .ok (.invokevirtual 63, 3) := by decide +kernel
theorem dX2_forceIn_7 : decode cX2_forceIn 7 = .ok (.aload_n 0, 1) := by decide +kernel
theorem dX2_forceIn_8 : decode cX2_forceIn 8 = .ok (.getfield 20, 3) := by decide +kernel
theorem dX2_forceIn_11 : decode cX2_forceIn 11 = .ok (.fconst 0, 1) := by decide +kernel
theorem dX2_forceIn_12 : decode cX2_forceIn 12 = .ok (.fcmp .g, 1) := by decide +kernel
theorem dX2_forceIn_13 : decode cX2_forceIn 13 = .ok (.ifCond .ge 11, 3) := by decide +kernel
theorem dX2_forceIn_16 : decode cX2_forceIn 16 = .ok (.aload_n 0, 1) := by decide +kernel
theorem dX2_forceIn_17 : decode cX2_forceIn 17 = .ok (.getfield 20, 3) := by decide +kernel
theorem dX2_forceIn_20 : decode cX2_forceIn 20 = .ok (.fneg, 1) := by decide +kernel
theorem dX2_forceIn_21 : decode cX2_forceIn 21 = .ok (.goto 7, 3) := by decide +kernel
theorem dX2_forceIn_24 : decode cX2_forceIn 24 = .ok (.aload_n 0, 1) := by decide +kernel
theorem dX2_forceIn_25 : decode cX2_forceIn 25 = .ok (.getfield 20, 3) := by decide +kernel
theorem dX2_forceIn_28 : decode cX2_forceIn 28 = .ok (.aload_n 0, 1) := by decide +kernel
theorem dX2_forceIn_29 : decode cX2_forceIn 29 = .ok (.getfield 24, 3) := by decide +kernel
theorem dX2_forceIn_32 : decode cX2_forceIn 32 = .ok (.fconst 0, 1) := by decide +kernel
theorem dX2_forceIn_33 : decode cX2_forceIn 33 = .ok (.fcmp .g, 1) := by decide +kernel
theorem dX2_forceIn_34 : decode cX2_forceIn 34 = .ok (.ifCond .ge 11, 3) := by decide +kernel
theorem dX2_forceIn_37 : decode cX2_forceIn 37 = .ok (.aload_n 0, 1) := by decide +kernel
theorem dX2_forceIn_38 : decode cX2_forceIn 38 = .ok (.getfield 24, 3) := by decide +kernel
theorem dX2_forceIn_41 : decode cX2_forceIn 41 = .ok (.fneg, 1) := by decide +kernel
theorem dX2_forceIn_42 : decode cX2_forceIn 42 = .ok (.goto 7, 3) := by decide +kernel
theorem dX2_forceIn_45 : decode cX2_forceIn 45 = .ok (.aload_n 0, 1) := by decide +kernel
theorem dX2_forceIn_46 : decode cX2_forceIn 46 = .ok (.getfield 24, 3) := by decide +kernel
theorem dX2_forceIn_49 : decode cX2_forceIn 49 = .ok (.fadd, 1) := by decide +kernel
theorem dX2_forceIn_50 : decode cX2_forceIn 50 = .ok (.freturn, 1) := by decide +kernel
theorem dX2_countCalmArea_0 : decode cX2_countCalmArea 0 = .ok (.iconst 0, 1) := by decide +kernel
theorem dX2_countCalmArea_1 : decode cX2_countCalmArea 1 = .ok (.istore 4, 2) := by decide +kernel
theorem dX2_countCalmArea_3 : decode cX2_countCalmArea 3 = .ok (.iload 4, 2) := by decide +kernel
theorem dX2_countCalmArea_5 : decode cX2_countCalmArea 5 = .ok (.aload_n 1, 1) := by decide +kernel
theorem dX2_countCalmArea_6 : decode cX2_countCalmArea 6 = .ok (.invokevirtual 67, 3) := by decide +kernel
theorem dX2_countCalmArea_9 : decode cX2_countCalmArea 9 = .ok (.if_icmp .ge 50, 3) := by decide +kernel
theorem dX2_countCalmArea_12 : decode cX2_countCalmArea 12 = .ok (.aload_n 0, 1) := by decide +kernel
theorem dX2_countCalmArea_13 : decode cX2_countCalmArea 13 = .ok (.aload_n 1, 1) := by decide +kernel
theorem dX2_countCalmArea_14 : decode cX2_countCalmArea 14 = .ok (.aload_n 1, 1) := by decide +kernel
theorem dX2_countCalmArea_15 : decode cX2_countCalmArea 15 = .ok (.iload 4, 2) := by decide +kernel
theorem dX2_countCalmArea_17 : decode cX2_countCalmArea 17 = .ok (.invokevirtual 71, 3) := by decide +kernel
theorem dX2_countCalmArea_20 : decode cX2_countCalmArea 20 = .ok (.aload_n 1, 1) := by decide +kernel
theorem dX2_countCalmArea_21 : decode cX2_countCalmArea 21 = .ok (.iload 4, 2) := by decide +kernel
theorem dX2_countCalmArea_23 : decode cX2_countCalmArea 23 = .ok (.invokevirtual 74, 3) := by decide +kernel
theorem dX2_countCalmArea_26 : decode cX2_countCalmArea 26 = .ok (.invokevirtual 77, 3) := by decide +kernel
theorem dX2_countCalmArea_29 : decode cX2_countCalmArea 29 = .ok (.fstore 5, 2) := by decide +kernel
theorem dX2_countCalmArea_31 : decode cX2_countCalmArea 31 = .ok (.aload_n 0, 1) := by decide +kernel
theorem dX2_countCalmArea_32 : decode cX2_countCalmArea 32 = .ok (.getfield 16, 3) := by decide +kernel
theorem dX2_countCalmArea_35 : decode cX2_countCalmArea 35 = .ok (.iload 4, 2) := by decide +kernel
theorem dX2_countCalmArea_37 : decode cX2_countCalmArea 37 = .ok (.fload 5, 2) := by decide +kernel
theorem dX2_countCalmArea_39 : decode cX2_countCalmArea 39 = .ok (.iload_n 3, 1) := by decide +kernel
theorem dX2_countCalmArea_40 : decode cX2_countCalmArea 40 = .ok (.i2f, 1) := by decide +kernel
theorem dX2_countCalmArea_41 : decode cX2_countCalmArea 41 = .ok (.fcmp .g, 1) := by decide +kernel
theorem dX2_countCalmArea_42 : decode cX2_countCalmArea 42 = .ok (.ifCond .gt 7, 3) := by decide +kernel
theorem dX2_countCalmArea_45 : decode cX2_countCalmArea 45 = .ok (.iconst 1, 1) := by decide +kernel
theorem dX2_countCalmArea_46 : decode cX2_countCalmArea 46 = .ok (.goto 4, 3) := by decide +kernel
theorem dX2_countCalmArea_49 : decode cX2_countCalmArea 49 = .ok (.iconst 0, 1) := by decide +kernel
theorem dX2_countCalmArea_50 : decode cX2_countCalmArea 50 = .ok (.invokevirtual 81, 3) := by decide +kernel
theorem dX2_countCalmArea_53 : decode cX2_countCalmArea 53 = .ok (.iinc 4 1, 3) := by decide +kernel
theorem dX2_countCalmArea_56 : decode cX2_countCalmArea 56 = .ok (.goto (-53), 3) := by decide +kernel
theorem dX2_countCalmArea_59 : decode cX2_countCalmArea 59 = .ok (.aload_n 0, 1) := by decide +kernel
theorem dX2_countCalmArea_60 : decode cX2_countCalmArea 60 = .ok (.getfield 16, 3) := by decide +kernel
theorem dX2_countCalmArea_63 : decode cX2_countCalmArea 63 = .ok (.iload_n 2, 1) := by decide +kernel
theorem dX2_countCalmArea_64 : decode cX2_countCalmArea 64 = .ok (.invokevirtual 84, 3) := by decide +kernel
theorem dX2_countCalmArea_67 : decode cX2_countCalmArea 67 = .ok (.iconst 1, 1) := by decide +kernel
theorem dX2_countCalmArea_68 : decode cX2_countCalmArea 68 = .ok (.if_icmp .eq 5, 3) := by decide +kernel
theorem dX2_countCalmArea_71 : decode cX2_countCalmArea 71 = .ok (.iconst 0, 1) := by decide +kernel
theorem dX2_countCalmArea_72 : decode cX2_countCalmArea 72 = .ok (.ireturn, 1) := by decide +kernel
theorem dX2_countCalmArea_73 : decode cX2_countCalmArea 73 = .ok (.aload_n 0, 1) := by decide +kernel
theorem dX2_countCalmArea_74 : decode cX2_countCalmArea 74 = .ok (.getfield 16, 3) := by decide +kernel
theorem dX2_countCalmArea_77 : decode cX2_countCalmArea 77 = .ok (.iload_n 2, 1) := by decide +kernel
theorem dX2_countCalmArea_78 : decode cX2_countCalmArea 78 = .ok (.iconst 2, 1) := by decide +kernel
theorem dX2_countCalmArea_79 : decode cX2_countCalmArea 79 = .ok (.invokevirtual 81, 3) := by decide +kernel
theorem dX2_countCalmArea_82 : decode cX2_countCalmArea 82 = .ok (.iconst 1, 1) := by decide +kernel
theorem dX2_countCalmArea_83 : decode cX2_countCalmArea 83 = .ok (.istore 4, 2) := by decide +kernel
theorem dX2_countCalmArea_85 : decode cX2_countCalmArea 85 = .ok (.iconst 1, 1) := by decide +kernel
theorem dX2_countCalmArea_86 : decode cX2_countCalmArea 86 = .ok (.istore 5, 2) := by decide +kernel
theorem dX2_countCalmArea_88 : decode cX2_countCalmArea 88 = .ok (.iconst 0, 1) := by decide +kernel
theorem dX2_countCalmArea_89 : decode cX2_countCalmArea 89 = .ok (.istore 6, 2) := by decide +kernel
theorem dX2_countCalmArea_91 : decode cX2_countCalmArea 91 = .ok (.iload 6, 2) := by decide +kernel
theorem dX2_countCalmArea_93 : decode cX2_countCalmArea 93 = .ok (.bipush 100, 2) := by decide +kernel
theorem dX2_countCalmArea_95 : decode cX2_countCalmArea 95 = .ok (.if_icmp .ge 28, 3) := by decide +kernel
theorem dX2_countCalmArea_98 : decode cX2_countCalmArea 98 = .ok (.iload 5, 2) := by decide +kernel
theorem dX2_countCalmArea_100 : decode cX2_countCalmArea 100 = .ok (.ifCond .le 23, 3) := by decide +kernel
theorem dX2_countCalmArea_103 : decode cX2_countCalmArea 103 = .ok (.aload_n 0, 1) := by decide +kernel
theorem dX2_countCalmArea_104 : decode cX2_countCalmArea 104 = .ok (.aload_n 1, 1) := by decide +kernel
theorem dX2_countCalmArea_105 : decode cX2_countCalmArea 105 = .ok (.invokevirtual 86, 3) := by decide +kernel
theorem dX2_countCalmArea_108 : decode cX2_countCalmArea 108 = .ok (.istore 5, 2) := by decide +kernel
theorem dX2_countCalmArea_110 : decode cX2_countCalmArea 110 = .ok (.iload 4, 2) := by decide +kernel
theorem dX2_countCalmArea_112 : decode cX2_countCalmArea 112 = .ok (.iload 5, 2) := by decide +kernel
theorem dX2_countCalmArea_114 : decode cX2_countCalmArea 114 = .ok (.iadd, 1) := by decide +kernel
theorem dX2_countCalmArea_115 : decode cX2_countCalmArea 115 = .ok (.istore 4, 2) := by decide +kernel
theorem dX2_countCalmArea_117 : decode cX2_countCalmArea 117 = .ok (.iinc 6 1, 3) := by decide +kernel
theorem dX2_countCalmArea_120 : decode cX2_countCalmArea 120 = .ok (.goto (-29), 3) := by decide +kernel
theorem dX2_countCalmArea_123 : decode cX2_countCalmArea 123 = .ok (.iload 4, 2) := by decide +kernel
theorem dX2_countCalmArea_125 : decode cX2_countCalmArea 125 = .ok (.ireturn, 1) := by decide +kernel
theorem dX2_reachMore_0 : decode cX2_reachMore 0 = .ok (.iconst 0, 1) := by decide +kernel
theorem dX2_reachMore_1 : decode cX2_reachMore 1 = .ok (.istore_n 2, 1) := by decide +kernel
theorem dX2_reachMore_2 : decode cX2_reachMore 2 = .ok (.iconst 0, 1) := by decide +kernel
theorem dX2_reachMore_3 : decode cX2_reachMore 3 = .ok (.istore_n 3, 1) := by decide +kernel
theorem dX2_reachMore_4 : decode cX2_reachMore 4 = .ok (.iload_n 3, 1) := by decide +kernel
theorem dX2_reachMore_5 : decode cX2_reachMore 5 = .ok (.aload_n 1, 1) := by decide +kernel
theorem dX2_reachMore_6 : decode cX2_reachMore 6 = .ok (.getfield 90, 3) := by decide +kernel
theorem dX2_reachMore_9 : decode cX2_reachMore 9 = .ok (.if_icmp .ge 73, 3) := by decide +kernel
theorem dX2_reachMore_12 : decode cX2_reachMore 12 = .ok (.iconst 0, 1) := by decide +kernel
theorem dX2_reachMore_13 : decode cX2_reachMore 13 = .ok (.istore 4, 2) := by decide +kernel
theorem dX2_reachMore_15 : decode cX2_reachMore 15 = .ok (.iload 4, 2) := by decide +kernel
theorem dX2_reachMore_17 : decode cX2_reachMore 17 = .ok (.aload_n 1, 1) := by decide +kernel
theorem dX2_reachMore_18 : decode cX2_reachMore 18 = .ok (.getfield 93, 3) := by decide +kernel
theorem dX2_reachMore_21 : decode cX2_reachMore 21 = .ok (.if_icmp .ge 55, 3) := by decide +kernel
theorem dX2_reachMore_24 : decode cX2_reachMore 24 = .ok (.aload_n 1, 1) := by decide +kernel
theorem dX2_reachMore_25 : decode cX2_reachMore 25 = .ok (.iload 4, 2) := by decide +kernel
theorem dX2_reachMore_27 : decode cX2_reachMore 27 = .ok (.iload_n 3, 1) := by decide +kernel
theorem dX2_reachMore_28 : decode cX2_reachMore 28 = .ok (.invokevirtual 96, 3) := by decide +kernel
theorem dX2_reachMore_31 : decode cX2_reachMore 31 = .ok (.istore 5, 2) := by decide +kernel
theorem dX2_reachMore_33 : decode cX2_reachMore 33 = .ok (.aload_n 0, 1) := by decide +kernel
theorem dX2_reachMore_34 : decode cX2_reachMore 34 = .ok (.getfield 16, 3) := by decide +kernel
theorem dX2_reachMore_37 : decode cX2_reachMore 37 = .ok (.iload 5, 2) := by decide +kernel
theorem dX2_reachMore_39 : decode cX2_reachMore 39 = .ok (.invokevirtual 84, 3) := by decide +kernel
theorem dX2_reachMore_42 : decode cX2_reachMore 42 = .ok (.iconst 1, 1) := by decide +kernel
theorem dX2_reachMore_43 : decode cX2_reachMore 43 = .ok (.if_icmp .ne 27, 3) := by decide +kernel
theorem dX2_reachMore_46 : decode cX2_reachMore 46 = .ok (.aload_n 0, 1) := by decide +kernel
theorem dX2_reachMore_47 : decode cX2_reachMore 47 = .ok (.aload_n 1, 1) := by decide +kernel
theorem dX2_reachMore_48 : decode cX2_reachMore 48 = .ok (.iload 4, 2) := by decide +kernel
theorem dX2_reachMore_50 : decode cX2_reachMore 50 = .ok (.iload_n 3, 1) := by decide +kernel
theorem dX2_reachMore_51 : decode cX2_reachMore 51 = .ok (.invokevirtual 99, 3) := by decide +kernel
theorem dX2_reachMore_54 : decode cX2_reachMore 54 = .ok (.ifCond .eq 16, 3) := by decide +kernel
theorem dX2_reachMore_57 : decode cX2_reachMore 57 = .ok (.aload_n 0, 1) := by decide +kernel
theorem dX2_reachMore_58 : decode cX2_reachMore 58 = .ok (.getfield 16, 3) := by decide +kernel
theorem dX2_reachMore_61 : decode cX2_reachMore 61 = .ok (.iload 5, 2) := by decide +kernel
theorem dX2_reachMore_63 : decode cX2_reachMore 63 = .ok (.iconst 2, 1) := by decide +kernel
theorem dX2_reachMore_64 : decode cX2_reachMore 64 = .ok (.invokevirtual 81, 3) := by decide +kernel
theorem dX2_reachMore_67 : decode cX2_reachMore 67 = .ok (.iinc 2 1, 3) := by decide +kernel
theorem dX2_reachMore_70 : decode cX2_reachMore 70 = .ok (.iinc 4 1, 3) := by decide +kernel
theorem dX2_reachMore_73 : decode cX2_reachMore 73 = .ok (.goto (-58), 3) := by decide +kernel
theorem dX2_reachMore_76 : decode cX2_reachMore 76 = .ok (.iinc 3 1, 3) := by decide +kernel
theorem dX2_reachMore_79 : decode cX2_reachMore 79 = .ok (.goto (-75), 3) := by decide +kernel
theorem dX2_reachMore_82 : decode cX2_reachMore 82 = .ok (.iload_n 2, 1) := by decide +kernel
theorem dX2_reachMore_83 : decode cX2_reachMore 83 = .ok (.ireturn, 1) := by decide +kernel
theorem dX2_isBesideReached_0 : decode cX2_isBesideReached 0 = .ok (.aload_n 0, 1) := by decide +kernel
theorem dX2_isBesideReached_1 : decode cX2_isBesideReached 1 = .ok (.getfield 16, 3) := by decide +kernel
theorem dX2_isBesideReached_4 : decode cX2_isBesideReached 4 = .ok (.aload_n 1, 1) := by decide +kernel
theorem dX2_isBesideReached_5 : decode cX2_isBesideReached 5 = .ok (.iload_n 2, 1) := by decide +kernel
theorem dX2_isBesideReached_6 : decode cX2_isBesideReached 6 = .ok (.iload_n 3, 1) := by decide +kernel
theorem dX2_isBesideReached_7 : decode cX2_isBesideReached 7 = .ok (.iconst 1, 1) := by decide +kernel
theorem dX2_isBesideReached_8 : decode cX2_isBesideReached 8 = .ok (.isub, 1) := by decide +kernel
theorem dX2_isBesideReached_9 : decode cX2_isBesideReached 9 = .ok (.invokevirtual 96, 3) := by decide +kernel
theorem dX2_isBesideReached_12 : decode cX2_isBesideReached 12 = .ok (.invokevirtual 84, 3) := by decide +kernel
theorem dX2_isBesideReached_15 : decode cX2_isBesideReached 15 = .ok (.iconst 2, 1) := by decide +kernel
theorem dX2_isBesideReached_16 : decode cX2_isBesideReached 16 = .ok (.if_icmp .eq 60, 3) := by decide +kernel
theorem dX2_isBesideReached_19 : decode cX2_isBesideReached 19 = .ok (.aload_n 0, 1) := by decide +kernel
theorem dX2_isBesideReached_20 : decode cX2_isBesideReached 20 = .ok (.getfield 16, 3) := by decide +kernel
theorem dX2_isBesideReached_23 : decode cX2_isBesideReached 23 = .ok (.aload_n 1, 1) := by decide +kernel
theorem dX2_isBesideReached_24 : decode cX2_isBesideReached 24 = .ok (.iload_n 2, 1) := by decide +kernel
theorem dX2_isBesideReached_25 : decode cX2_isBesideReached 25 = .ok (.iconst 1, 1) := by decide +kernel
theorem dX2_isBesideReached_26 : decode cX2_isBesideReached 26 = .ok (.isub, 1) := by decide +kernel
theorem dX2_isBesideReached_27 : decode cX2_isBesideReached 27 = .ok (.iload_n 3, 1) := by decide +kernel
theorem dX2_isBesideReached_28 : decode cX2_isBesideReached 28 = .ok (.invokevirtual 96, 3) := by decide +kernel
theorem dX2_isBesideReached_31 : decode cX2_isBesideReached 31 = .ok (.invokevirtual 84, 3) := by decide +kernel
theorem dX2_isBesideReached_34 : decode cX2_isBesideReached 34 = .ok (.iconst 2, 1) := by decide +kernel
theorem dX2_isBesideReached_35 : decode cX2_isBesideReached 35 = .ok (.if_icmp .eq 41, 3) := by decide +kernel
theorem dX2_isBesideReached_38 : decode cX2_isBesideReached 38 = .ok (.aload_n 0, 1) := by decide +kernel
theorem dX2_isBesideReached_39 : decode cX2_isBesideReached 39 = .ok (.getfield 16, 3) := by decide +kernel
theorem dX2_isBesideReached_42 : decode cX2_isBesideReached 42 = .ok (.aload_n 1, 1) := by decide +kernel
theorem dX2_isBesideReached_43 : decode cX2_isBesideReached 43 = .ok (.iload_n 2, 1) := by decide +kernel
theorem dX2_isBesideReached_44 : decode cX2_isBesideReached 44 = .ok (.iconst 1, 1) := by decide +kernel
theorem dX2_isBesideReached_45 : decode cX2_isBesideReached 45 = .ok (.iadd, 1) := by decide +kernel
theorem dX2_isBesideReached_46 : decode cX2_isBesideReached 46 = .ok (.iload_n 3, 1) := by decide +kernel
theorem dX2_isBesideReached_47 : decode cX2_isBesideReached 47 = .ok (.invokevirtual 96, 3) := by decide +kernel
theorem dX2_isBesideReached_50 : decode cX2_isBesideReached 50 = .ok (.invokevirtual 84, 3) := by decide +kernel
theorem dX2_isBesideReached_53 : decode cX2_isBesideReached 53 = .ok (.iconst 2, 1) := by decide +kernel
theorem dX2_isBesideReached_54 : decode cX2_isBesideReached 54 = .ok (.if_icmp .eq 22, 3) := by decide +kernel
theorem dX2_isBesideReached_57 : decode cX2_isBesideReached 57 = .ok (.aload_n 0, 1) := by decide +kernel
theorem dX2_isBesideReached_58 : decode cX2_isBesideReached 58 = .ok (.getfield 16, 3) := by decide +kernel
theorem dX2_isBesideReached_61 : decode cX2_isBesideReached 61 = .ok (.aload_n 1, 1) := by decide +kernel
theorem dX2_isBesideReached_62 : decode cX2_isBesideReached 62 = .ok (.iload_n 2, 1) := by decide +kernel
theorem dX2_isBesideReached_63 : decode cX2_isBesideReached 63 = .ok (.iload_n 3, 1) := by decide +kernel
theorem dX2_isBesideReached_64 : decode cX2_isBesideReached 64 = .ok (.iconst 1, 1) := by decide +kernel
theorem dX2_isBesideReached_65 : decode cX2_isBesideReached 65 = .ok (.iadd, 1) := by decide +kernel
theorem dX2_isBesideReached_66 : decode cX2_isBesideReached 66 = .ok (.invokevirtual 96, 3) := by decide +kernel
theorem dX2_isBesideReached_69 : decode cX2_isBesideReached 69 = .ok (.invokevirtual 84, 3) := by decide +kernel
theorem dX2_isBesideReached_72 : decode cX2_isBesideReached 72 = .ok (.iconst 2, 1) := by decide +kernel
theorem dX2_isBesideReached_73 : decode cX2_isBesideReached 73 = .ok (.if_icmp .ne 7, 3) := by decide +kernel
theorem dX2_isBesideReached_76 : decode cX2_isBesideReached 76 = .ok (.iconst 1, 1) := by decide +kernel
theorem dX2_isBesideReached_77 : decode cX2_isBesideReached 77 = .ok (.goto 4, 3) := by decide +kernel
theorem dX2_isBesideReached_80 : decode cX2_isBesideReached 80 = .ok (.iconst 0, 1) := by decide +kernel
theorem dX2_isBesideReached_81 : decode cX2_isBesideReached 81 = .ok (.ireturn, 1) := by decide +kernel
theorem dX3_init_0 : decode cX3_init 0 = .ok (.aload_n 0, 1) := by decide +kernel
theorem dX3_init_1 : decode cX3_init 1 = .ok (.invokespecial 3, 3) := by decide +kernel
theorem dX3_init_4 : decode cX3_init 4 = .ok (.aload_n 0, 1) := by decide +kernel
theorem dX3_init_5 : decode cX3_init 5 = .ok (.bipush 10, 2) := by decide +kernel
theorem dX3_init_7 : decode cX3_init 7 = .ok (.anewarray 9, 3) := by decide +kernel
theorem dX3_init_10 : decode cX3_init 10 = .ok (.putfield 11, 3) := by decide +kernel
theorem dX3_init_13 : decode cX3_init 13 = .ok (.iconst 0, 1) := by decide +kernel
theorem dX3_init_14 : decode cX3_init 14 = .ok (.istore_n 1, 1) := by decide +kernel
theorem dX3_init_15 : decode cX3_init 15 = .ok (.iload_n 1, 1) := by decide +kernel
theorem dX3_init_16 : decode cX3_init 16 = .ok (.aload_n 0, 1) := by decide +kernel
theorem dX3_init_17 : decode cX3_init 17 = .ok (.getfield 11, 3) := by decide +kernel
theorem dX3_init_20 : decode cX3_init 20 = .ok (.arraylength, 1) := by decide +kernel
theorem dX3_init_21 : decode cX3_init 21 = .ok (.if_icmp .ge 22, 3) := by decide +kernel
theorem dX3_init_24 : decode cX3_init 24 = .ok (.aload_n 0, 1) := by decide +kernel
theorem dX3_init_25 : decode cX3_init 25 = .ok (.getfield 11, 3) := by decide +kernel
theorem dX3_init_28 : decode cX3_init 28 = .ok (.iload_n 1, 1) := by decide +kernel
theorem dX3_init_29 : decode cX3_init 29 = .ok (.new 9, 3) := by decide +kernel
theorem dX3_init_32 : decode cX3_init 32 = .ok (.dup, 1) := by decide +kernel
theorem dX3_init_33 : decode cX3_init 33 = .ok (.invokespecial 17, 3) := by decide +kernel
theorem dX3_init_36 : decode cX3_init 36 = .ok (.aastore, 1) := by decide +kernel
theorem dX3_init_37 : decode cX3_init 37 = .ok (.iinc 1 1, 3) := by decide +kernel
theorem dX3_init_40 : decode cX3_init 40 = .ok (.goto (-25), 3) := by decide +kernel
theorem dX3_init_43 : decode cX3_init 43 = .ok (.return_, 1) := by decide +kernel
theorem dX3_slot_0 : decode cX3_slot 0 = .ok (.iload_n 1, 1) := by decide +kernel
theorem dX3_slot_1 : decode cX3_slot 1 = .ok (.ifCond .lt 21, 3) := by decide +kernel
theorem dX3_slot_4 : decode cX3_slot 4 = .ok (.iload_n 1, 1) := by decide +kernel
theorem dX3_slot_5 : decode cX3_slot 5 = .ok (.aload_n 0, 1) := by decide +kernel
theorem dX3_slot_6 : decode cX3_slot 6 = .ok (.getfield 11, 3) := by decide +kernel
theorem dX3_slot_9 : decode cX3_slot 9 = .ok (.arraylength, 1) := by decide +kernel
theorem dX3_slot_10 : decode cX3_slot 10 = .ok (.if_icmp .ge 12, 3) := by decide +kernel
theorem dX3_slot_13 : decode cX3_slot 13 = .ok (.aload_n 0, 1) := by decide +kernel
theorem dX3_slot_14 : decode cX3_slot 14 = .ok (.getfield 11, 3) := by decide +kernel
theorem dX3_slot_17 : decode cX3_slot 17 = .ok (.iload_n 1, 1) := by decide +kernel
theorem dX3_slot_18 : decode cX3_slot 18 = .ok (.aaload, 1) := by decide +kernel
theorem dX3_slot_19 : decode cX3_slot 19 = .ok (.goto 4, 3) := by decide +kernel
theorem dX3_slot_22 : decode cX3_slot 22 = .ok (.aconst_null, 1) := by decide +kernel
theorem dX3_slot_23 : decode cX3_slot 23 = .ok (.areturn, 1) := by decide +kernel
theorem dX3_record_0 : decode cX3_record 0 = .ok (.aload_n 0, 1) := by decide +kernel
theorem dX3_record_1 : decode cX3_record 1 = .ok (.aload_n 0, 1) := by decide +kernel
theorem dX3_record_2 : decode cX3_record 2 = .ok (.getfield 18, 3) := by decide +kernel
theorem dX3_record_5 : decode cX3_record 5 = .ok (.invokevirtual 22, 3) := by decide +kernel
theorem dX3_record_8 : decode cX3_record 8 = .ok (.astore_n 2, 1) := by decide +kernel
theorem dX3_record_9 : decode cX3_record 9 = .ok (.aload_n 2, 1) := by decide +kernel
theorem dX3_record_10 : decode cX3_record 10 = .ok (.ifnonnull 4, 3) := by decide +kernel
theorem dX3_record_13 : decode cX3_record 13 = .ok (.return_, 1) := by decide +kernel
theorem dX3_record_14 : decode cX3_record 14 = .ok (.aload_n 2, 1) := by decide +kernel
theorem dX3_record_15 : decode cX3_record 15 = .ok (.aload_n 1, 1) := by decide +kernel
theorem dX3_record_16 : decode cX3_record 16 = .ok (.invokevirtual 26, 3) := by decide +kernel
theorem dX3_record_19 : decode cX3_record 19 = .ok (.aload_n 0, 1) := by decide +kernel
theorem dX3_record_20 : decode cX3_record 20 = .ok (.aload_n 0, 1) := by decide +kernel
theorem dX3_record_21 : decode cX3_record 21 = .ok (.getfield 18, 3) := by decide +kernel
theorem dX3_record_24 : decode cX3_record 24 = .ok (.iconst 1, 1) := by decide +kernel
theorem dX3_record_25 : decode cX3_record 25 = .ok (.iadd, 1) := by decide +kernel
theorem dX3_record_26 : decode cX3_record 26 = .ok (.bipush 10, 2) := by decide +kernel
theorem dX3_record_28 : decode cX3_record 28 = .ok (.irem, 1) := by decide +kernel
theorem dX3_record_29 : decode cX3_record 29 = .ok (.putfield 18, 3) := by decide +kernel
theorem dX3_record_32 : decode cX3_record 32 = .ok (.aload_n 0, 1) := by decide +kernel
theorem dX3_record_33 : decode cX3_record 33 = .ok (.aload_n 0, 1) := by decide +kernel
theorem dX3_record_34 : decode cX3_record 34 = .ok (.getfield 30, 3) := by decide +kernel
theorem dX3_record_37 : decode cX3_record 37 = .ok (.iconst 1, 1) := by decide +kernel
theorem dX3_record_38 : decode cX3_record 38 = .ok (.iadd, 1) := by decide +kernel
theorem dX3_record_39 : decode cX3_record 39 = .ok (.bipush 10, 2) := by decide +kernel
theorem dX3_record_41 : decode cX3_record 41 = .ok (.invokestatic 33, 3) := by decide +kernel
theorem dX3_record_44 : decode cX3_record 44 = .ok (.putfield 30, 3) := by decide +kernel
theorem dX3_record_47 : decode cX3_record 47 = .ok (.return_, 1) := by decide +kernel
theorem dX3_takeBack_0 : decode cX3_takeBack 0 = .ok (.aload_n 0, 1) := by decide +kernel
theorem dX3_takeBack_1 : decode cX3_takeBack 1 = .ok (.getfield 18, 3) := by decide +kernel
theorem dX3_takeBack_4 : decode cX3_takeBack 4 = .ok (.bipush 10, 2) := by decide +kernel
theorem dX3_takeBack_6 : decode cX3_takeBack 6 = .ok (.iadd, 1) := by decide +kernel
theorem dX3_takeBack_7 : decode cX3_takeBack 7 = .ok (.iconst 1, 1) := by decide +kernel
theorem dX3_takeBack_8 : decode cX3_takeBack 8 = .ok (.isub, 1) := by decide +kernel
theorem dX3_takeBack_9 : decode cX3_takeBack 9 = .ok (.bipush 10, 2) := by decide +kernel
theorem dX3_takeBack_11 : decode cX3_takeBack 11 = .ok (.irem, 1) := by decide +kernel
theorem dX3_takeBack_12 : decode cX3_takeBack 12 = .ok (.istore_n 2, 1) := by decide +kernel
theorem dX3_takeBack_13 : decode cX3_takeBack 13 = .ok (.aload_n 0, 1) := by decide +kernel
theorem dX3_takeBack_14 : decode cX3_takeBack 14 = .ok (.iload_n 2, 1) := by decide +kernel
theorem dX3_takeBack_15 : decode cX3_takeBack 15 = .ok (.invokevirtual 22, 3) := by decide +kernel
theorem dX3_takeBack_18 : decode cX3_takeBack 18 = .ok (.astore_n 3, 1) := by decide +kernel
theorem dX3_takeBack_19 : decode cX3_takeBack 19 = .ok (.aload_n 0, 1) := by decide +kernel
theorem dX3_takeBack_20 : decode cX3_takeBack 20 = .ok (.getfield 30, 3) := by decide +kernel
theorem dX3_takeBack_23 : decode cX3_takeBack 23 = .ok (.ifCond .eq 7, 3) := by decide +kernel
theorem dX3_takeBack_26 : decode cX3_takeBack 26 = .ok (.aload_n 3, 1) := by decide +kernel
theorem dX3_takeBack_27 : decode cX3_takeBack 27 = .ok (.ifnonnull 5, 3) := by decide +kernel
theorem dX3_takeBack_30 : decode cX3_takeBack 30 = .ok (.iconst 0, 1) := by decide +kernel
theorem dX3_takeBack_31 : decode cX3_takeBack 31 = .ok (.ireturn, 1) := by decide +kernel
theorem dX3_takeBack_32 : decode cX3_takeBack 32 = .ok (.aload_n 1, 1) := by decide +kernel
theorem dX3_takeBack_33 : decode cX3_takeBack 33 = .ok (.aload_n 3, 1) := by decide +kernel
theorem dX3_takeBack_34 : decode cX3_takeBack 34 = .ok (.invokevirtual 26, 3) := by decide +kernel
theorem dX3_takeBack_37 : decode cX3_takeBack 37 = .ok (.aload_n 0, 1) := by decide +kernel
theorem dX3_takeBack_38 : decode cX3_takeBack 38 = .ok (.iload_n 2, 1) := by decide +kernel
theorem dX3_takeBack_39 : decode cX3_takeBack 39 = .ok (.putfield 18, 3) := by decide +kernel
theorem dX3_takeBack_42 : decode cX3_takeBack 42 = .ok (.aload_n 0, 1) := by decide +kernel
theorem dX3_takeBack_43 : decode cX3_takeBack 43 = .ok (.dup, 1) := by decide +kernel
theorem dX3_takeBack_44 : decode cX3_takeBack 44 = .ok (.getfield 30, 3) := by decide +kernel
theorem dX3_takeBack_47 : decode cX3_takeBack 47 = .ok (.iconst 1, 1) := by decide +kernel
theorem dX3_takeBack_48 : decode cX3_takeBack 48 = .ok (.isub, 1) := by decide +kernel
theorem dX3_takeBack_49 : decode cX3_takeBack 49 = .ok (.putfield 30, 3) := by decide +kernel
theorem dX3_takeBack_52 : decode cX3_takeBack 52 = .ok (.iconst 1, 1) := by decide +kernel
theorem dX3_takeBack_53 : decode cX3_takeBack 53 = .ok (.ireturn, 1) := by decide +kernel
theorem dX3_clear_0 : decode cX3_clear 0 = .ok (.aload_n 0, 1) := by decide +kernel
theorem dX3_clear_1 : decode cX3_clear 1 = .ok (.iconst 0, 1) := by decide +kernel
theorem dX3_clear_2 : decode cX3_clear 2 = .ok (.putfield 30, 3) := by decide +kernel
theorem dX3_clear_5 : decode cX3_clear 5 = .ok (.return_, 1) := by decide +kernel
theorem dX4_init_0 : decode cX4_init 0 = .ok (.aload_n 0, 1) := by decide +kernel
theorem dX4_init_1 : decode cX4_init 1 = .ok (.invokespecial 3, 3) := by decide +kernel
theorem dX4_init_4 : decode cX4_init 4 = .ok (.aload_n 0, 1) := by decide +kernel
theorem dX4_init_5 : decode cX4_init 5 = .ok (.new 9, 3) := by decide +kernel
theorem dX4_init_8 : decode cX4_init 8 = .ok (.dup, 1) := by decide +kernel
theorem dX4_init_9 : decode cX4_init 9 = .ok (.invokespecial 11, 3) := by decide +kernel
theorem dX4_init_12 : decode cX4_init 12 = .ok (.putfield 12, 3) := by decide +kernel
theorem dX4_init_15 : decode cX4_init 15 = .ok (.aload_n 0, 1) := by decide +kernel
theorem dX4_init_16 : decode cX4_init 16 = .ok (.new 18, 3) := by decide +kernel
theorem dX4_init_19 : decode cX4_init 19 = .ok (.dup, 1) := by decide +kernel
theorem dX4_init_20 : decode cX4_init 20 = .ok (.bipush 100, 2) := by decide +kernel
theorem dX4_init_22 : decode cX4_init 22 = .ok (.iconst 0, 1) := by decide +kernel
theorem dX4_init_23 : decode cX4_init 23 = .ok (.invokespecial 20, 3) := by decide +kernel
theorem dX4_init_26 : decode cX4_init 26 = .ok (.putfield 23, 3) := by decide +kernel
theorem dX4_init_29 : decode cX4_init 29 = .ok (.return_, 1) := by decide +kernel
theorem dX4_passTurn_0 : decode cX4_passTurn 0 = .ok (.aload_n 1, 1) := by decide +kernel
theorem dX4_passTurn_1 : decode cX4_passTurn 1 = .ok (.dup, 1) := by decide +kernel
theorem dX4_passTurn_2 : decode cX4_passTurn 2 = .ok (.getfield 27, 3) := by decide +kernel
theorem dX4_passTurn_5 : decode cX4_passTurn 5 = .ok (.iconst 1, 1) := by decide +kernel
theorem dX4_passTurn_6 : decode cX4_passTurn 6 = .ok (.iadd, 1) := by decide +kernel
theorem dX4_passTurn_7 : decode cX4_passTurn 7 = .ok (.putfield 27, 3) := by decide +kernel
theorem dX4_passTurn_10 : decode cX4_passTurn 10 = .ok (.aload_n 0, 1) := by decide +kernel
theorem dX4_passTurn_11 : decode cX4_passTurn 11 = .ok (.aload_n 1, 1) := by decide +kernel
theorem dX4_passTurn_12 : decode cX4_passTurn 12 = .ok (.invokevirtual 33, 3) := by decide +kernel
theorem dX4_passTurn_15 : decode cX4_passTurn 15 = .ok (.aload_n 1, 1) := by decide +kernel
theorem dX4_passTurn_16 : decode cX4_passTurn 16 = .ok (.getfield 37, 3) := by decide +kernel
theorem dX4_passTurn_19 : decode cX4_passTurn 19 = .ok (.ifCond .le 33, 3) := by decide +kernel
theorem dX4_passTurn_22 : decode cX4_passTurn 22 = .ok (.iconst 0, 1) := by decide +kernel
theorem dX4_passTurn_23 : decode cX4_passTurn 23 = .ok (.istore_n 2, 1) := by decide +kernel
theorem dX4_passTurn_24 : decode cX4_passTurn 24 = .ok (.iload_n 2, 1) := by decide +kernel
theorem dX4_passTurn_25 : decode cX4_passTurn 25 = .ok (.aload_n 1, 1) := by decide +kernel
theorem dX4_passTurn_26 : decode cX4_passTurn 26 = .ok (.getfield 40, 3) := by decide +kernel
theorem dX4_passTurn_29 : decode cX4_passTurn 29 = .ok (.if_icmp .ge 23, 3) := by decide +kernel
theorem dX4_passTurn_32 : decode cX4_passTurn 32 = .ok (.aload_n 1, 1) := by decide +kernel
theorem dX4_passTurn_33 : decode cX4_passTurn 33 = .ok (.iload_n 2, 1) := by decide +kernel
theorem dX4_passTurn_34 : decode cX4_passTurn 34 = .ok (.invokevirtual 43, 3) := by decide +kernel
theorem dX4_passTurn_37 : decode cX4_passTurn 37 = .ok (.ifCond .eq 9, 3) := by decide +kernel
theorem dX4_passTurn_40 : decode cX4_passTurn 40 = .ok (.aload_n 0, 1) := by decide +kernel
theorem dX4_passTurn_41 : decode cX4_passTurn 41 = .ok (.aload_n 1, 1) := by decide +kernel
theorem dX4_passTurn_42 : decode cX4_passTurn 42 = .ok (.iload_n 2, 1) := by decide +kernel
theorem dX4_passTurn_43 : decode cX4_passTurn 43 = .ok (.invokevirtual 47, 3) := by decide +kernel
theorem dX4_passTurn_46 : decode cX4_passTurn 46 = .ok (.iinc 2 1, 3) := by decide +kernel
theorem dX4_passTurn_49 : decode cX4_passTurn 49 = .ok (.goto (-25), 3) := by decide +kernel
theorem dX4_passTurn_52 : decode cX4_passTurn 52 = .ok (.iconst 0, 1) := by decide +kernel
theorem dX4_passTurn_53 : decode cX4_passTurn 53 = .ok (.istore_n 2, 1) := by decide +kernel
theorem dX4_passTurn_54 : decode cX4_passTurn 54 = .ok (.iload_n 2, 1) := by decide +kernel
theorem dX4_passTurn_55 : decode cX4_passTurn 55 = .ok (.aload_n 1, 1) := by decide +kernel
theorem dX4_passTurn_56 : decode cX4_passTurn 56 = .ok (.getfield 40, 3) := by decide +kernel
theorem dX4_passTurn_59 : decode cX4_passTurn 59 = .ok (.if_icmp .ge 23, 3) := by decide +kernel
theorem dX4_passTurn_62 : decode cX4_passTurn 62 = .ok (.aload_n 1, 1) := by decide +kernel
theorem dX4_passTurn_63 : decode cX4_passTurn 63 = .ok (.iload_n 2, 1) := by decide +kernel
theorem dX4_passTurn_64 : decode cX4_passTurn 64 = .ok (.invokevirtual 43, 3) := by decide +kernel
theorem dX4_passTurn_67 : decode cX4_passTurn 67 = .ok (.ifCond .eq 9, 3) := by decide +kernel
theorem dX4_passTurn_70 : decode cX4_passTurn 70 = .ok (.aload_n 0, 1) := by decide +kernel
theorem dX4_passTurn_71 : decode cX4_passTurn 71 = .ok (.aload_n 1, 1) := by decide +kernel
theorem dX4_passTurn_72 : decode cX4_passTurn 72 = .ok (.iload_n 2, 1) := by decide +kernel
theorem dX4_passTurn_73 : decode cX4_passTurn 73 = .ok (.invokevirtual 51, 3) := by decide +kernel
theorem dX4_passTurn_76 : decode cX4_passTurn 76 = .ok (.iinc 2 1, 3) := by decide +kernel
theorem dX4_passTurn_79 : decode cX4_passTurn 79 = .ok (.goto (-25), 3) := by decide +kernel
theorem dX4_passTurn_82 : decode cX4_passTurn 82 = .ok (.aload_n 0, 1) := by decide +kernel
theorem dX4_passTurn_83 : decode cX4_passTurn 83 = .ok (.aload_n 1, 1) := by decide +kernel
theorem dX4_passTurn_84 : decode cX4_passTurn 84 = .ok (.invokevirtual 54, 3) := by decide +kernel
theorem dX4_passTurn_87 : decode cX4_passTurn 87 = .ok (.return_, 1) := by decide +kernel
theorem dX4_changeLevel_0 : decode cX4_changeLevel 0 = .ok (.aload_n 1, 1) := by decide +kernel
theorem dX4_changeLevel_1 : decode cX4_changeLevel 1 = .ok (.getfield 37, 3) := by decide +kernel
theorem dX4_changeLevel_4 : decode cX4_changeLevel 4 = .ok (.istore_n 2, 1) := by decide +kernel
theorem dX4_changeLevel_5 : decode cX4_changeLevel 5 = .ok (.iconst 0, 1) := by decide +kernel
theorem dX4_changeLevel_6 : decode cX4_changeLevel 6 = .ok (.istore_n 3, 1) := by decide +kernel
theorem dX4_changeLevel_7 : decode cX4_changeLevel 7 = .ok (.iload_n 3, 1) := by decide +kernel
theorem dX4_changeLevel_8 : decode cX4_changeLevel 8 = .ok (.aload_n 1, 1) := by decide +kernel
theorem dX4_changeLevel_9 : decode cX4_changeLevel 9 = .ok (.getfield 57, 3) := by decide +kernel
theorem dX4_changeLevel_12 : decode cX4_changeLevel 12 = .ok (.if_icmp .ge 21, 3) := by decide +kernel
theorem dX4_changeLevel_15 : decode cX4_changeLevel 15 = .ok (.iload_n 2, 1) := by decide +kernel
theorem dX4_changeLevel_16 : decode cX4_changeLevel 16 = .ok (.aload_n 1, 1) := by decide +kernel
theorem dX4_changeLevel_17 : decode cX4_changeLevel 17 = .ok (.getfield 60, 3) := by decide +kernel
theorem dX4_changeLevel_20 : decode cX4_changeLevel 20 = .ok (.iload_n 3, 1) := by decide +kernel
theorem dX4_changeLevel_21 : decode cX4_changeLevel 21 = .ok (.iconst 2, 1) := by decide +kernel
theorem dX4_changeLevel_22 : decode cX4_changeLevel 22 = .ok (.invokevirtual 64, 3) := by decide +kernel
theorem dX4_changeLevel_25 : decode cX4_changeLevel 25 = .ok (.iadd, 1) := by decide +kernel
theorem dX4_changeLevel_26 : decode cX4_changeLevel 26 = .ok (.istore_n 2, 1) := by decide +kernel
theorem dX4_changeLevel_27 : decode cX4_changeLevel 27 = .ok (.iinc 3 1, 3) := by decide +kernel
theorem dX4_changeLevel_30 : decode cX4_changeLevel 30 = .ok (.goto (-23), 3) := by decide +kernel
theorem dX4_changeLevel_33 : decode cX4_changeLevel 33 = .ok (.iconst 0, 1) := by decide +kernel
theorem dX4_changeLevel_34 : decode cX4_changeLevel 34 = .ok (.istore_n 3, 1) := by decide +kernel
theorem dX4_changeLevel_35 : decode cX4_changeLevel 35 = .ok (.iload_n 3, 1) := by decide +kernel
theorem dX4_changeLevel_36 : decode cX4_changeLevel 36 = .ok (.aload_n 1, 1) := by decide +kernel
theorem dX4_changeLevel_37 : decode cX4_changeLevel 37 = .ok (.getfield 70, 3) := by decide +kernel
theorem dX4_changeLevel_40 : decode cX4_changeLevel 40 = .ok (.if_icmp .ge 29, 3) := by decide +kernel
theorem dX4_changeLevel_43 : decode cX4_changeLevel 43 = .ok (.aload_n 1, 1) := by decide +kernel
theorem dX4_changeLevel_44 : decode cX4_changeLevel 44 = .ok (.iload_n 3, 1) := by decide +kernel
theorem dX4_changeLevel_45 : decode cX4_changeLevel 45 = .ok (.invokevirtual 73, 3) := by decide +kernel
theorem dX4_changeLevel_48 : decode cX4_changeLevel 48 = .ok (.ifCond .eq 15, 3) := by decide +kernel
theorem dX4_changeLevel_51 : decode cX4_changeLevel 51 = .ok (.iload_n 2, 1) := by decide +kernel
theorem dX4_changeLevel_52 : decode cX4_changeLevel 52 = .ok (.aload_n 1, 1) := by decide +kernel
theorem dX4_changeLevel_53 : decode cX4_changeLevel 53 = .ok (.getfield 76, 3) := by decide +kernel
theorem dX4_changeLevel_56 : decode cX4_changeLevel 56 = .ok (.iload_n 3, 1) := by decide +kernel
theorem dX4_changeLevel_57 : decode cX4_changeLevel 57 = .ok (.iconst 3, 1) := by decide +kernel
theorem dX4_changeLevel_58 : decode cX4_changeLevel 58 = .ok (.invokevirtual 64, 3) := by decide +kernel
theorem dX4_changeLevel_61 : decode cX4_changeLevel 61 = .ok (.isub, 1) := by decide +kernel
theorem dX4_changeLevel_62 : decode cX4_changeLevel 62 = .ok (.istore_n 2, 1) := by decide +kernel
theorem dX4_changeLevel_63 : decode cX4_changeLevel 63 = .ok (.iinc 3 1, 3) := by decide +kernel
theorem dX4_changeLevel_66 : decode cX4_changeLevel 66 = .ok (.goto (-31), 3) := by decide +kernel
theorem dX4_changeLevel_69 : decode cX4_changeLevel 69 = .ok (.aload_n 1, 1) := by decide +kernel
theorem dX4_changeLevel_70 : decode cX4_changeLevel 70 = .ok (.iconst 0, 1) := by decide +kernel
theorem dX4_changeLevel_71 : decode cX4_changeLevel 71 = .ok (.iload_n 2, 1) := by decide +kernel
theorem dX4_changeLevel_72 : decode cX4_changeLevel 72 = .ok (.sipush 1000, 3) := by decide +kernel
theorem dX4_changeLevel_75 : decode cX4_changeLevel 75 = .ok (.invokestatic 79, 3) := by decide +kernel
theorem dX4_changeLevel_78 : decode cX4_changeLevel 78 = .ok (.invokestatic 84, 3) := by decide +kernel
theorem dX4_changeLevel_81 : decode cX4_changeLevel 81 = .ok (.putfield 37, 3) := by decide +kernel
theorem dX4_changeLevel_84 : decode cX4_changeLevel 84 = .ok (.return_, 1) := by decide +kernel
theorem dX4_driftOn_0 : decode cX4_driftOn 0 = .ok (.aload_n 0, 1) := by decide +kernel
theorem dX4_driftOn_1 : decode cX4_driftOn 1 = .ok (.getfield 12, 3) := by decide +kernel
theorem dX4_driftOn_4 : decode cX4_driftOn 4 = .ok (.aload_n 1, 1) := by decide +kernel
theorem dX4_driftOn_5 : decode cX4_driftOn 5 = .ok (.aload_n 1, 1) := by decide +kernel
theorem dX4_driftOn_6 : decode cX4_driftOn 6 = .ok (.getfield 87, 3) := by decide +kernel
theorem dX4_driftOn_9 : decode cX4_driftOn 9 = .ok (.iload_n 2, 1) := by decide +kernel
theorem dX4_driftOn_10 : decode cX4_driftOn 10 = .ok (.iconst 0, 1) := by decide +kernel
theorem dX4_driftOn_11 : decode cX4_driftOn 11 = .ok (.invokevirtual 64, 3) := by decide +kernel
theorem dX4_driftOn_14 : decode cX4_driftOn 14 = .ok (.aload_n 1, 1) := by decide +kernel
theorem dX4_driftOn_15 : decode cX4_driftOn 15 = .ok (.getfield 87, 3) := by decide +kernel
theorem dX4_driftOn_18 : decode cX4_driftOn 18 = .ok (.iload_n 2, 1) := by decide +kernel
theorem dX4_driftOn_19 : decode cX4_driftOn 19 = .ok (.iconst 1, 1) := by decide +kernel
theorem dX4_driftOn_20 : decode cX4_driftOn 20 = .ok (.invokevirtual 64, 3) := by decide +kernel
theorem dX4_driftOn_23 : decode cX4_driftOn 23 = .ok (.invokevirtual 90, 3) := by decide +kernel
theorem dX4_driftOn_26 : decode cX4_driftOn 26 = .ok (.aload_n 0, 1) := by decide +kernel
theorem dX4_driftOn_27 : decode cX4_driftOn 27 = .ok (.aload_n 1, 1) := by decide +kernel
theorem dX4_driftOn_28 : decode cX4_driftOn 28 = .ok (.iload_n 2, 1) := by decide +kernel
theorem dX4_driftOn_29 : decode cX4_driftOn 29 = .ok (.iconst 0, 1) := by decide +kernel
theorem dX4_driftOn_30 : decode cX4_driftOn 30 = .ok (.invokevirtual 94, 3) := by decide +kernel
theorem dX4_driftOn_33 : decode cX4_driftOn 33 = .ok (.istore_n 3, 1) := by decide +kernel
theorem dX4_driftOn_34 : decode cX4_driftOn 34 = .ok (.aload_n 0, 1) := by decide +kernel
theorem dX4_driftOn_35 : decode cX4_driftOn 35 = .ok (.aload_n 1, 1) := by decide +kernel
theorem dX4_driftOn_36 : decode cX4_driftOn 36 = .ok (.iload_n 2, 1) := by decide +kernel
theorem dX4_driftOn_37 : decode cX4_driftOn 37 = .ok (.iconst 1, 1) := by decide +kernel
theorem dX4_driftOn_38 : decode cX4_driftOn 38 = .ok (.invokevirtual 94, 3) := by decide +kernel
theorem dX4_driftOn_41 : decode cX4_driftOn 41 = .ok (.istore 4, 2) := by decide +kernel
theorem dX4_driftOn_43 : decode cX4_driftOn 43 = .ok (.aload_n 1, 1) := by decide +kernel
theorem dX4_driftOn_44 : decode cX4_driftOn 44 = .ok (.iload_n 2, 1) := by decide +kernel
theorem dX4_driftOn_45 : decode cX4_driftOn 45 = .ok (.iconst 5, 1) := by decide +kernel
theorem dX4_driftOn_46 : decode cX4_driftOn 46 = .ok (.iload_n 3, 1) := by decide +kernel
theorem dX4_driftOn_47 : decode cX4_driftOn 47 = .ok (.invokevirtual 98, 3) := by decide +kernel
theorem dX4_driftOn_50 : decode cX4_driftOn 50 = .ok (.aload_n 1, 1) := by decide +kernel
theorem dX4_driftOn_51 : decode cX4_driftOn 51 = .ok (.iload_n 2, 1) := by decide +kernel
theorem dX4_driftOn_52 : decode cX4_driftOn 52 = .ok (.bipush 6, 2) := by decide +kernel
theorem dX4_driftOn_54 : decode cX4_driftOn 54 = .ok (.iload 4, 2) := by decide +kernel
theorem dX4_driftOn_56 : decode cX4_driftOn 56 = .ok (.invokevirtual 98, 3) := by decide +kernel
theorem dX4_driftOn_59 : decode cX4_driftOn 59 = .ok (.aload_n 0, 1) := by decide +kernel
theorem dX4_driftOn_60 : decode cX4_driftOn 60 = .ok (.aload_n 1, 1) := by decide +kernel
theorem dX4_driftOn_61 : decode cX4_driftOn 61 = .ok (.iload_n 2, 1) := by decide +kernel
theorem dX4_driftOn_62 : decode cX4_driftOn 62 = .ok (.iconst 0, 1) := by decide +kernel
theorem dX4_driftOn_63 : decode cX4_driftOn 63 = .ok (.invokevirtual 102, 3) := by decide +kernel
theorem dX4_driftOn_66 : decode cX4_driftOn 66 = .ok (.aload_n 0, 1) := by decide +kernel
theorem dX4_driftOn_67 : decode cX4_driftOn 67 = .ok (.aload_n 1, 1) := by decide +kernel
theorem dX4_driftOn_68 : decode cX4_driftOn 68 = .ok (.iload_n 2, 1) := by decide +kernel
theorem dX4_driftOn_69 : decode cX4_driftOn 69 = .ok (.iconst 1, 1) := by decide +kernel
theorem dX4_driftOn_70 : decode cX4_driftOn 70 = .ok (.invokevirtual 102, 3) := by decide +kernel
theorem dX4_driftOn_73 : decode cX4_driftOn 73 = .ok (.return_, 1) := by decide +kernel
theorem dX4_growth_0 : decode cX4_growth 0 = .ok (.aload_n 1, 1) := by decide +kernel
theorem dX4_growth_1 : decode cX4_growth 1 = .ok (.getfield 87, 3) := by decide +kernel
theorem dX4_growth_4 : decode cX4_growth 4 = .ok (.iload_n 2, 1) := by decide +kernel
theorem dX4_growth_5 : decode cX4_growth 5 = .ok (.iconst 2, 1) := by decide +kernel
theorem dX4_growth_6 : decode cX4_growth 6 = .ok (.invokevirtual 64, 3) := by decide +kernel
theorem dX4_growth_9 : decode cX4_growth 9 = .ok (.istore 4, 2) := by decide +kernel
theorem dX4_growth_11 : decode cX4_growth 11 = .ok (.iload 4, 2) := by decide +kernel
theorem dX4_growth_13 : decode cX4_growth 13 = .ok (.ifCond .gt 5, 3) := by decide +kernel
theorem dX4_growth_16 : decode cX4_growth 16 = .ok (.iconst 0, 1) := by decide +kernel
theorem dX4_growth_17 : decode cX4_growth 17 = .ok (.ireturn, 1) := by decide +kernel
theorem dX4_growth_18 : decode cX4_growth 18 = .ok (.aload_n 1, 1) := by decide +kernel
theorem dX4_growth_19 : decode cX4_growth 19 = .ok (.getfield 87, 3) := by decide +kernel
theorem dX4_growth_22 : decode cX4_growth 22 = .ok (.iload_n 2, 1) := by decide +kernel
theorem dX4_growth_23 : decode cX4_growth 23 = .ok (.iconst 0, 1) := by decide +kernel
theorem dX4_growth_24 : decode cX4_growth 24 = .ok (.invokevirtual 64, 3) := by decide +kernel
theorem dX4_growth_27 : decode cX4_growth 27 = .ok (.istore 5, 2) := by decide +kernel
theorem dX4_growth_29 : decode cX4_growth 29 = .ok (.aload_n 1, 1) := by decide +kernel
theorem dX4_growth_30 : decode cX4_growth 30 = .ok (.getfield 87, 3) := by decide +kernel
theorem dX4_growth_33 : decode cX4_growth 33 = .ok (.iload_n 2, 1) := by decide +kernel
theorem dX4_growth_34 : decode cX4_growth 34 = .ok (.iconst 1, 1) := by decide +kernel
theorem dX4_growth_35 : decode cX4_growth 35 = .ok (.invokevirtual 64, 3) := by decide +kernel
theorem dX4_growth_38 : decode cX4_growth 38 = .ok (.istore 6, 2) := by decide +kernel
theorem dX4_growth_40 : decode cX4_growth 40 = .ok (.iload_n 3, 1) := by decide +kernel
theorem dX4_growth_41 : decode cX4_growth 41 = .ok (.ifCond .ne 7, 3) := by decide +kernel
theorem dX4_growth_44 : decode cX4_growth 44 = .ok (.iconst 1, 1) := by decide +kernel
theorem dX4_growth_45 : decode cX4_growth 45 = .ok (.goto 4, 3) := by decide +kernel
theorem dX4_growth_48 : decode cX4_growth 48 = .ok (.iconst 0, 1) := by decide +kernel
theorem dX4_growth_49 : decode cX4_growth 49 = .ok (.istore 7, 2) := by decide +kernel
theorem dX4_growth_51 : decode cX4_growth 51 = .ok (.iload_n 3, 1) := by decide +kernel
theorem dX4_growth_52 : decode cX4_growth 52 = .ok (.iconst 1, 1) := by decide +kernel
theorem dX4_growth_53 : decode cX4_growth 53 = .ok (.if_icmp .ne 7, 3) := by decide +kernel
theorem dX4_growth_56 : decode cX4_growth 56 = .ok (.iconst 1, 1) := by decide +kernel
theorem dX4_growth_57 : decode cX4_growth 57 = .ok (.goto 4, 3) := by decide +kernel
theorem dX4_growth_60 : decode cX4_growth 60 = .ok (.iconst 0, 1) := by decide +kernel
theorem dX4_growth_61 : decode cX4_growth 61 = .ok (.istore 8, 2) := by decide +kernel
theorem dX4_growth_63 : decode cX4_growth 63 = .ok (.iload_n 3, 1) := by decide +kernel
theorem dX4_growth_64 : decode cX4_growth 64 = .ok (.ifCond .ne 13, 3) := by decide +kernel
theorem dX4_growth_67 : decode cX4_growth 67 = .ok (.aload_n 0, 1) := by decide +kernel
theorem dX4_growth_68 : decode cX4_growth 68 = .ok (.getfield 12, 3) := by decide +kernel
theorem dX4_growth_71 : decode cX4_growth 71 = .ok (.getfield 105, 3) := by decide +kernel
theorem dX4_growth_74 : decode cX4_growth 74 = .ok (.goto 10, 3) := by decide +kernel
theorem dX4_growth_77 : decode cX4_growth 77 = .ok (.aload_n 0, 1) := by decide +kernel
theorem dX4_growth_78 : decode cX4_growth 78 = .ok (.getfield 12, 3) := by decide +kernel
theorem dX4_growth_81 : decode cX4_growth 81 = .ok (.getfield 109, 3) := by decide +kernel
theorem dX4_growth_84 : decode cX4_growth 84 = .ok (.fstore 9, 2) := by decide +kernel
theorem dX4_growth_86 : decode cX4_growth 86 = .ok (.fload 9, 2) := by decide +kernel
theorem dX4_growth_88 : decode cX4_growth 88 = .ok (.aload_n 1, 1) := by decide +kernel
theorem dX4_growth_89 : decode cX4_growth 89 = .ok (.getfield 37, 3) := by decide +kernel
theorem dX4_growth_92 : decode cX4_growth 92 = .ok (.i2f, 1) := by decide +kernel
theorem dX4_growth_93 : decode cX4_growth 93 = .ok (.fmul, 1) := by decide +kernel
theorem dX4_growth_94 : decode cX4_growth 94 = .ok (.bipush 10, 2) := by decide +kernel
theorem dX4_growth_96 : decode cX4_growth 96 = .ok (.iload 4, 2) := by decide +kernel
theorem dX4_growth_98 : decode cX4_growth 98 = .ok (.imul, 1) := by decide +kernel
theorem dX4_growth_99 : decode cX4_growth 99 = .ok (.i2f, 1) := by decide +kernel
theorem dX4_growth_100 : decode cX4_growth 100 = .ok (.fdiv, 1) := by decide +kernel
theorem dX4_growth_101 : decode cX4_growth 101 = .ok (.f2i, 1) := by decide +kernel
theorem dX4_growth_102 : decode cX4_growth 102 = .ok (.istore 10, 2) := by decide +kernel
theorem dX4_growth_104 : decode cX4_growth 104 = .ok (.aload_n 1, 1) := by decide +kernel
theorem dX4_growth_105 : decode cX4_growth 105 = .ok (.getfield 112, 3) := by decide +kernel
theorem dX4_growth_108 : decode cX4_growth 108 = .ok (.aload_n 1, 1) := by decide +kernel
theorem dX4_growth_109 : decode cX4_growth 109 = .ok (.getfield 115, 3) := by decide +kernel
theorem dX4_growth_112 : decode cX4_growth 112 = .ok (.aload_n 1, 1) := by decide +kernel
theorem dX4_growth_113 : decode cX4_growth 113 = .ok (.iload 5, 2) := by decide +kernel
theorem dX4_growth_115 : decode cX4_growth 115 = .ok (.iload 7, 2) := by decide +kernel
theorem dX4_growth_117 : decode cX4_growth 117 = .ok (.isub, 1) := by decide +kernel
theorem dX4_growth_118 : decode cX4_growth 118 = .ok (.iload 6, 2) := by decide +kernel
theorem dX4_growth_120 : decode cX4_growth 120 = .ok (.iload 8, 2) := by decide +kernel
theorem dX4_growth_122 : decode cX4_growth 122 = .ok (.isub, 1) := by decide +kernel
theorem dX4_growth_123 : decode cX4_growth 123 = .ok (.invokevirtual 118, 3) := by decide +kernel
theorem dX4_growth_126 : decode cX4_growth 126 = .ok (.invokevirtual 121, 3) := by decide +kernel
theorem dX4_growth_129 : decode cX4_growth 129 = .ok (.aload_n 1, 1) := by decide +kernel
theorem dX4_growth_130 : decode cX4_growth 130 = .ok (.getfield 115, 3) := by decide +kernel
theorem dX4_growth_133 : decode cX4_growth 133 = .ok (.aload_n 1, 1) := by decide +kernel
theorem dX4_growth_134 : decode cX4_growth 134 = .ok (.iload 5, 2) := by decide +kernel
theorem dX4_growth_136 : decode cX4_growth 136 = .ok (.iload 7, 2) := by decide +kernel
theorem dX4_growth_138 : decode cX4_growth 138 = .ok (.iadd, 1) := by decide +kernel
theorem dX4_growth_139 : decode cX4_growth 139 = .ok (.iload 6, 2) := by decide +kernel
theorem dX4_growth_141 : decode cX4_growth 141 = .ok (.iload 8, 2) := by decide +kernel
theorem dX4_growth_143 : decode cX4_growth 143 = .ok (.iadd, 1) := by decide +kernel
theorem dX4_growth_144 : decode cX4_growth 144 = .ok (.invokevirtual 118, 3) := by decide +kernel
theorem dX4_growth_147 : decode cX4_growth 147 = .ok (.invokevirtual 121, 3) := by decide +kernel
theorem dX4_growth_150 : decode cX4_growth 150 = .ok (.isub, 1) := by decide +kernel
theorem dX4_growth_151 : decode cX4_growth 151 = .ok (.imul, 1) := by decide +kernel
theorem dX4_growth_152 : decode cX4_growth 152 = .ok (.istore 11, 2) := by decide +kernel
theorem dX4_growth_154 : decode cX4_growth 154 = .ok (.bipush 10, 2) := by decide +kernel
theorem dX4_growth_156 : decode cX4_growth 156 = .ok (.iload_n 3, 1) := by decide +kernel
theorem dX4_growth_157 : decode cX4_growth 157 = .ok (.ifCond .ne 10, 3) := by decide +kernel
theorem dX4_growth_160 : decode cX4_growth 160 = .ok (.aload_n 1, 1) := by decide +kernel
theorem dX4_growth_161 : decode cX4_growth 161 = .ok (.getfield 124, 3) := by decide +kernel
theorem dX4_growth_164 : decode cX4_growth 164 = .ok (.goto 7, 3) := by decide +kernel
theorem dX4_growth_167 : decode cX4_growth 167 = .ok (.aload_n 1, 1) := by decide +kernel
theorem dX4_growth_168 : decode cX4_growth 168 = .ok (.getfield 127, 3) := by decide +kernel
theorem dX4_growth_171 : decode cX4_growth 171 = .ok (.imul, 1) := by decide +kernel
theorem dX4_growth_172 : decode cX4_growth 172 = .ok (.iload 4, 2) := by decide +kernel
theorem dX4_growth_174 : decode cX4_growth 174 = .ok (.idiv, 1) := by decide +kernel
theorem dX4_growth_175 : decode cX4_growth 175 = .ok (.istore 12, 2) := by decide +kernel
theorem dX4_growth_177 : decode cX4_growth 177 = .ok (.iload 10, 2) := by decide +kernel
theorem dX4_growth_179 : decode cX4_growth 179 = .ok (.iload 11, 2) := by decide +kernel
theorem dX4_growth_181 : decode cX4_growth 181 = .ok (.iadd, 1) := by decide +kernel
theorem dX4_growth_182 : decode cX4_growth 182 = .ok (.iload 12, 2) := by decide +kernel
theorem dX4_growth_184 : decode cX4_growth 184 = .ok (.iadd, 1) := by decide +kernel
theorem dX4_growth_185 : decode cX4_growth 185 = .ok (.ireturn, 1) := by decide +kernel
theorem dX4_moveOn_0 : decode cX4_moveOn 0 = .ok (.aload_n 1, 1) := by decide +kernel
theorem dX4_moveOn_1 : decode cX4_moveOn 1 = .ok (.getfield 87, 3) := by decide +kernel
theorem dX4_moveOn_4 : decode cX4_moveOn 4 = .ok (.iload_n 2, 1) := by decide +kernel
theorem dX4_moveOn_5 : decode cX4_moveOn 5 = .ok (.iconst 5, 1) := by decide +kernel
theorem dX4_moveOn_6 : decode cX4_moveOn 6 = .ok (.iload_n 3, 1) := by decide +kernel
theorem dX4_moveOn_7 : decode cX4_moveOn 7 = .ok (.iadd, 1) := by decide +kernel
theorem dX4_moveOn_8 : decode cX4_moveOn 8 = .ok (.invokevirtual 64, 3) := by decide +kernel
theorem dX4_moveOn_11 : decode cX4_moveOn 11 = .ok (.istore 4, 2) := by decide +kernel
theorem dX4_moveOn_13 : decode cX4_moveOn 13 = .ok (.iload 4, 2) := by decide +kernel
theorem dX4_moveOn_15 : decode cX4_moveOn 15 = .ok (.bipush 100, 2) := by decide +kernel
theorem dX4_moveOn_17 : decode cX4_moveOn 17 = .ok (.if_icmp .lt 7, 3) := by decide +kernel
theorem dX4_moveOn_20 : decode cX4_moveOn 20 = .ok (.iconst 1, 1) := by decide +kernel
theorem dX4_moveOn_21 : decode cX4_moveOn 21 = .ok (.goto 15, 3) := by decide +kernel
theorem dX4_moveOn_24 : decode cX4_moveOn 24 = .ok (.iload 4, 2) := by decide +kernel
theorem dX4_moveOn_26 : decode cX4_moveOn 26 = .ok (.bipush (-100), 2) := by decide +kernel
theorem dX4_moveOn_28 : decode cX4_moveOn 28 = .ok (.if_icmp .gt 7, 3) := by decide +kernel
theorem dX4_moveOn_31 : decode cX4_moveOn 31 = .ok (.iconst (-1), 1) := by decide +kernel
theorem dX4_moveOn_32 : decode cX4_moveOn 32 = .ok (.goto 4, 3) := by decide +kernel
theorem dX4_moveOn_35 : decode cX4_moveOn 35 = .ok (.iconst 0, 1) := by decide +kernel
theorem dX4_moveOn_36 : decode cX4_moveOn 36 = .ok (.istore 5, 2) := by decide +kernel
theorem dX4_moveOn_38 : decode cX4_moveOn 38 = .ok (.iload 5, 2) := by decide +kernel
theorem dX4_moveOn_40 : decode cX4_moveOn 40 = .ok (.ifCond .ne 4, 3) := by decide +kernel
theorem dX4_moveOn_43 : decode cX4_moveOn 43 = .ok (.return_, 1) := by decide +kernel
theorem dX4_moveOn_44 : decode cX4_moveOn 44 = .ok (.aload_n 1, 1) := by decide +kernel
theorem dX4_moveOn_45 : decode cX4_moveOn 45 = .ok (.getfield 87, 3) := by decide +kernel
theorem dX4_moveOn_48 : decode cX4_moveOn 48 = .ok (.iload_n 2, 1) := by decide +kernel
theorem dX4_moveOn_49 : decode cX4_moveOn 49 = .ok (.iconst 0, 1) := by decide +kernel
theorem dX4_moveOn_50 : decode cX4_moveOn 50 = .ok (.invokevirtual 64, 3) := by decide +kernel
theorem dX4_moveOn_53 : decode cX4_moveOn 53 = .ok (.iload_n 3, 1) := by decide +kernel
theorem dX4_moveOn_54 : decode cX4_moveOn 54 = .ok (.ifCond .ne 8, 3) := by decide +kernel
theorem dX4_moveOn_57 : decode cX4_moveOn 57 = .ok (.iload 5, 2) := by decide +kernel
theorem dX4_moveOn_59 : decode cX4_moveOn 59 = .ok (.goto 4, 3) := by decide +kernel
theorem dX4_moveOn_62 : decode cX4_moveOn 62 = .ok (.iconst 0, 1) := by decide +kernel
theorem dX4_moveOn_63 : decode cX4_moveOn 63 = .ok (.iadd, 1) := by decide +kernel
theorem dX4_moveOn_64 : decode cX4_moveOn 64 = .ok (.istore 6, 2) := by decide +kernel
theorem dX4_moveOn_66 : decode cX4_moveOn 66 = .ok (.aload_n 1, 1) := by decide +kernel
theorem dX4_moveOn_67 : decode cX4_moveOn 67 = .ok (.getfield 87, 3) := by decide +kernel
theorem dX4_moveOn_70 : decode cX4_moveOn 70 = .ok (.iload_n 2, 1) := by decide +kernel
theorem dX4_moveOn_71 : decode cX4_moveOn 71 = .ok (.iconst 1, 1) := by decide +kernel
theorem dX4_moveOn_72 : decode cX4_moveOn 72 = .ok (.invokevirtual 64, 3) := by decide +kernel
theorem dX4_moveOn_75 : decode cX4_moveOn 75 = .ok (.iload_n 3, 1) := by decide +kernel
theorem dX4_moveOn_76 : decode cX4_moveOn 76 = .ok (.iconst 1, 1) := by decide +kernel
theorem dX4_moveOn_77 : decode cX4_moveOn 77 = .ok (.if_icmp .ne 8, 3) := by decide +kernel
theorem dX4_moveOn_80 : decode cX4_moveOn 80 = .ok (.iload 5, 2) := by decide +kernel
theorem dX4_moveOn_82 : decode cX4_moveOn 82 = .ok (.goto 4, 3) := by decide +kernel
theorem dX4_moveOn_85 : decode cX4_moveOn 85 = .ok (.iconst 0, 1) := by decide +kernel
theorem dX4_moveOn_86 : decode cX4_moveOn 86 = .ok (.iadd, 1) := by decide +kernel
theorem dX4_moveOn_87 : decode cX4_moveOn 87 = .ok (.istore 7, 2) := by decide +kernel
theorem dX4_moveOn_89 : decode cX4_moveOn 89 = .ok (.aload_n 1, 1) := by decide +kernel
theorem dX4_moveOn_90 : decode cX4_moveOn 90 = .ok (.iload 6, 2) := by decide +kernel
theorem dX4_moveOn_92 : decode cX4_moveOn 92 = .ok (.iload 7, 2) := by decide +kernel
theorem dX4_moveOn_94 : decode cX4_moveOn 94 = .ok (.invokevirtual 118, 3) := by decide +kernel
theorem dX4_moveOn_97 : decode cX4_moveOn 97 = .ok (.istore 8, 2) := by decide +kernel
theorem dX4_moveOn_99 : decode cX4_moveOn 99 = .ok (.aload_n 1, 1) := by decide +kernel
theorem dX4_moveOn_100 : decode cX4_moveOn 100 = .ok (.getfield 130, 3) := by decide +kernel
theorem dX4_moveOn_103 : decode cX4_moveOn 103 = .ok (.iload 8, 2) := by decide +kernel
theorem dX4_moveOn_105 : decode cX4_moveOn 105 = .ok (.invokevirtual 121, 3) := by decide +kernel
theorem dX4_moveOn_108 : decode cX4_moveOn 108 = .ok (.istore 9, 2) := by decide +kernel
theorem dX4_moveOn_110 : decode cX4_moveOn 110 = .ok (.iload 8, 2) := by decide +kernel
theorem dX4_moveOn_112 : decode cX4_moveOn 112 = .ok (.iconst (-1), 1) := by decide +kernel
theorem dX4_moveOn_113 : decode cX4_moveOn 113 = .ok (.if_icmp .ne 18, 3) := by decide +kernel
theorem dX4_moveOn_116 : decode cX4_moveOn 116 = .ok (.aload_n 1, 1) := by decide +kernel
theorem dX4_moveOn_117 : decode cX4_moveOn 117 = .ok (.getfield 87, 3) := by decide +kernel
theorem dX4_moveOn_120 : decode cX4_moveOn 120 = .ok (.iload_n 2, 1) := by decide +kernel
theorem dX4_moveOn_121 : decode cX4_moveOn 121 = .ok (.iconst 5, 1) := by decide +kernel
theorem dX4_moveOn_122 : decode cX4_moveOn 122 = .ok (.iload_n 3, 1) := by decide +kernel
theorem dX4_moveOn_123 : decode cX4_moveOn 123 = .ok (.iadd, 1) := by decide +kernel
theorem dX4_moveOn_124 : decode cX4_moveOn 124 = .ok (.iconst 0, 1) := by decide +kernel
theorem dX4_moveOn_125 : decode cX4_moveOn 125 = .ok (.invokevirtual 133, 3) := by decide +kernel
theorem dX4_moveOn_128 : decode cX4_moveOn 128 = .ok (.goto 73, 3) := by decide +kernel
theorem dX4_moveOn_131 : decode cX4_moveOn 131 = .ok (.iload 9, 2) := by decide +kernel
theorem dX4_moveOn_133 : decode cX4_moveOn 133 = .ok (.iconst (-1), 1) := by decide +kernel
theorem dX4_moveOn_134 : decode cX4_moveOn 134 = .ok (.if_icmp .eq 17, 3) := by decide +kernel
theorem dX4_moveOn_137 : decode cX4_moveOn 137 = .ok (.aload_n 0, 1) := by decide +kernel
theorem dX4_moveOn_138 : decode cX4_moveOn 138 = .ok (.aload_n 1, 1) := by decide +kernel
theorem dX4_moveOn_139 : decode cX4_moveOn 139 = .ok (.iload_n 2, 1) := by decide +kernel
theorem dX4_moveOn_140 : decode cX4_moveOn 140 = .ok (.iload 9, 2) := by decide +kernel
theorem dX4_moveOn_142 : decode cX4_moveOn 142 = .ok (.iconst 5, 1) := by decide +kernel
theorem dX4_moveOn_143 : decode cX4_moveOn 143 = .ok (.iload_n 3, 1) := by decide +kernel
theorem dX4_moveOn_144 : decode cX4_moveOn 144 = .ok (.iadd, 1) := by decide +kernel
theorem dX4_moveOn_145 : decode cX4_moveOn 145 = .ok (.invokevirtual 136, 3) := by decide +kernel
theorem dX4_moveOn_148 : decode cX4_moveOn 148 = .ok (.goto 53, 3) := by decide +kernel
theorem dX4_moveOn_151 : decode cX4_moveOn 151 = .ok (.aload_n 1, 1) := by decide +kernel
theorem dX4_moveOn_152 : decode cX4_moveOn 152 = .ok (.iload_n 2, 1) := by decide +kernel
theorem dX4_moveOn_153 : decode cX4_moveOn 153 = .ok (.iload 6, 2) := by decide +kernel
theorem dX4_moveOn_155 : decode cX4_moveOn 155 = .ok (.iload 7, 2) := by decide +kernel
theorem dX4_moveOn_157 : decode cX4_moveOn 157 = .ok (.invokevirtual 140, 3) := by decide +kernel
theorem dX4_moveOn_160 : decode cX4_moveOn 160 = .ok (.aload_n 1, 1) := by decide +kernel
theorem dX4_moveOn_161 : decode cX4_moveOn 161 = .ok (.getfield 87, 3) := by decide +kernel
theorem dX4_moveOn_164 : decode cX4_moveOn 164 = .ok (.iload_n 2, 1) := by decide +kernel
theorem dX4_moveOn_165 : decode cX4_moveOn 165 = .ok (.iconst 5, 1) := by decide +kernel
theorem dX4_moveOn_166 : decode cX4_moveOn 166 = .ok (.iload_n 3, 1) := by decide +kernel
theorem dX4_moveOn_167 : decode cX4_moveOn 167 = .ok (.iadd, 1) := by decide +kernel
theorem dX4_moveOn_168 : decode cX4_moveOn 168 = .ok (.iload 4, 2) := by decide +kernel
theorem dX4_moveOn_170 : decode cX4_moveOn 170 = .ok (.bipush 100, 2) := by decide +kernel
theorem dX4_moveOn_172 : decode cX4_moveOn 172 = .ok (.iload 5, 2) := by decide +kernel
theorem dX4_moveOn_174 : decode cX4_moveOn 174 = .ok (.imul, 1) := by decide +kernel
theorem dX4_moveOn_175 : decode cX4_moveOn 175 = .ok (.isub, 1) := by decide +kernel
theorem dX4_moveOn_176 : decode cX4_moveOn 176 = .ok (.invokevirtual 133, 3) := by decide +kernel
theorem dX4_moveOn_179 : decode cX4_moveOn 179 = .ok (.aload_n 1, 1) := by decide +kernel
theorem dX4_moveOn_180 : decode cX4_moveOn 180 = .ok (.getfield 87, 3) := by decide +kernel
theorem dX4_moveOn_183 : decode cX4_moveOn 183 = .ok (.iload_n 2, 1) := by decide +kernel
theorem dX4_moveOn_184 : decode cX4_moveOn 184 = .ok (.bipush 9, 2) := by decide +kernel
theorem dX4_moveOn_186 : decode cX4_moveOn 186 = .ok (.aload_n 1, 1) := by decide +kernel
theorem dX4_moveOn_187 : decode cX4_moveOn 187 = .ok (.getfield 87, 3) := by decide +kernel
theorem dX4_moveOn_190 : decode cX4_moveOn 190 = .ok (.iload_n 2, 1) := by decide +kernel
theorem dX4_moveOn_191 : decode cX4_moveOn 191 = .ok (.bipush 9, 2) := by decide +kernel
theorem dX4_moveOn_193 : decode cX4_moveOn 193 = .ok (.invokevirtual 64, 3) := by decide +kernel
theorem dX4_moveOn_196 : decode cX4_moveOn 196 = .ok (.iconst 1, 1) := by decide +kernel
theorem dX4_moveOn_197 : decode cX4_moveOn 197 = .ok (.iadd, 1) := by decide +kernel
theorem dX4_moveOn_198 : decode cX4_moveOn 198 = .ok (.invokevirtual 133, 3) := by decide +kernel
theorem dX4_moveOn_201 : decode cX4_moveOn 201 = .ok (.return_, 1) := by decide +kernel
theorem dX4_collide_0 : decode cX4_collide 0 = .ok (.aload_n 1, 1) := by decide +kernel
theorem dX4_collide_1 : decode cX4_collide 1 = .ok (.getfield 87, 3) := by decide +kernel
theorem dX4_collide_4 : decode cX4_collide 4 = .ok (.iload_n 2, 1) := by decide +kernel
theorem dX4_collide_5 : decode cX4_collide 5 = .ok (.iconst 2, 1) := by decide +kernel
theorem dX4_collide_6 : decode cX4_collide 6 = .ok (.invokevirtual 64, 3) := by decide +kernel
theorem dX4_collide_9 : decode cX4_collide 9 = .ok (.istore 5, 2) := by decide +kernel
theorem dX4_collide_11 : decode cX4_collide 11 = .ok (.iload 5, 2) := by decide +kernel
theorem dX4_collide_13 : decode cX4_collide 13 = .ok (.aload_n 1, 1) := by decide +kernel
theorem dX4_collide_14 : decode cX4_collide 14 = .ok (.getfield 87, 3) := by decide +kernel
theorem dX4_collide_17 : decode cX4_collide 17 = .ok (.iload_n 3, 1) := by decide +kernel
theorem dX4_collide_18 : decode cX4_collide 18 = .ok (.iconst 2, 1) := by decide +kernel
theorem dX4_collide_19 : decode cX4_collide 19 = .ok (.invokevirtual 64, 3) := by decide +kernel
theorem dX4_collide_22 : decode cX4_collide 22 = .ok (.iadd, 1) := by decide +kernel
theorem dX4_collide_23 : decode cX4_collide 23 = .ok (.istore 6, 2) := by decide +kernel
theorem dX4_collide_25 : decode cX4_collide 25 = .ok (.aload_n 1, 1) := by decide +kernel
theorem dX4_collide_26 : decode cX4_collide 26 = .ok (.getfield 87, 3) := by decide +kernel
theorem dX4_collide_29 : decode cX4_collide 29 = .ok (.iload_n 2, 1) := by decide +kernel
theorem dX4_collide_30 : decode cX4_collide 30 = .ok (.iload 4, 2) := by decide +kernel
theorem dX4_collide_32 : decode cX4_collide 32 = .ok (.invokevirtual 64, 3) := by decide +kernel
theorem dX4_collide_35 : decode cX4_collide 35 = .ok (.iload 5, 2) := by decide +kernel
theorem dX4_collide_37 : decode cX4_collide 37 = .ok (.imul, 1) := by decide +kernel
theorem dX4_collide_38 : decode cX4_collide 38 = .ok (.istore 7, 2) := by decide +kernel
theorem dX4_collide_40 : decode cX4_collide 40 = .ok (.iload 6, 2) := by decide +kernel
theorem dX4_collide_42 : decode cX4_collide 42 = .ok (.ifCond .le 11, 3) := by decide +kernel
theorem dX4_collide_45 : decode cX4_collide 45 = .ok (.iload 7, 2) := by decide +kernel
theorem dX4_collide_47 : decode cX4_collide 47 = .ok (.iload 6, 2) := by decide +kernel
theorem dX4_collide_49 : decode cX4_collide 49 = .ok (.idiv, 1) := by decide +kernel
theorem dX4_collide_50 : decode cX4_collide 50 = .ok (.goto 4, 3) := by decide +kernel
theorem dX4_collide_53 : decode cX4_collide 53 = .ok (.iconst 0, 1) := by decide +kernel
theorem dX4_collide_54 : decode cX4_collide 54 = .ok (.istore 8, 2) := by decide +kernel
theorem dX4_collide_56 : decode cX4_collide 56 = .ok (.aload_n 1, 1) := by decide +kernel
theorem dX4_collide_57 : decode cX4_collide 57 = .ok (.getfield 87, 3) := by decide +kernel
theorem dX4_collide_60 : decode cX4_collide 60 = .ok (.iload_n 3, 1) := by decide +kernel
theorem dX4_collide_61 : decode cX4_collide 61 = .ok (.iload 4, 2) := by decide +kernel
theorem dX4_collide_63 : decode cX4_collide 63 = .ok (.aload_n 1, 1) := by decide +kernel
theorem dX4_collide_64 : decode cX4_collide 64 = .ok (.getfield 87, 3) := by decide +kernel
theorem dX4_collide_67 : decode cX4_collide 67 = .ok (.iload_n 3, 1) := by decide +kernel
theorem dX4_collide_68 : decode cX4_collide 68 = .ok (.iload 4, 2) := by decide +kernel
theorem dX4_collide_70 : decode cX4_collide 70 = .ok (.invokevirtual 64, 3) := by decide +kernel
theorem dX4_collide_73 : decode cX4_collide 73 = .ok (.iload 8, 2) := by decide +kernel
theorem dX4_collide_75 : decode cX4_collide 75 = .ok (.iadd, 1) := by decide +kernel
theorem dX4_collide_76 : decode cX4_collide 76 = .ok (.invokestatic 143, 3) := by decide +kernel
theorem dX4_collide_79 : decode cX4_collide 79 = .ok (.invokevirtual 133, 3) := by decide +kernel
theorem dX4_collide_82 : decode cX4_collide 82 = .ok (.aload_n 1, 1) := by decide +kernel
theorem dX4_collide_83 : decode cX4_collide 83 = .ok (.getfield 87, 3) := by decide +kernel
theorem dX4_collide_86 : decode cX4_collide 86 = .ok (.iload_n 2, 1) := by decide +kernel
theorem dX4_collide_87 : decode cX4_collide 87 = .ok (.iload 4, 2) := by decide +kernel
theorem dX4_collide_89 : decode cX4_collide 89 = .ok (.iconst 0, 1) := by decide +kernel
theorem dX4_collide_90 : decode cX4_collide 90 = .ok (.invokevirtual 133, 3) := by decide +kernel
theorem dX4_collide_93 : decode cX4_collide 93 = .ok (.aload_n 1, 1) := by decide +kernel
theorem dX4_collide_94 : decode cX4_collide 94 = .ok (.getfield 87, 3) := by decide +kernel
theorem dX4_collide_97 : decode cX4_collide 97 = .ok (.iload_n 2, 1) := by decide +kernel
theorem dX4_collide_98 : decode cX4_collide 98 = .ok (.bipush 10, 2) := by decide +kernel
theorem dX4_collide_100 : decode cX4_collide 100 = .ok (.aload_n 1, 1) := by decide +kernel
theorem dX4_collide_101 : decode cX4_collide 101 = .ok (.getfield 87, 3) := by decide +kernel
theorem dX4_collide_104 : decode cX4_collide 104 = .ok (.iload_n 2, 1) := by decide +kernel
theorem dX4_collide_105 : decode cX4_collide 105 = .ok (.bipush 10, 2) := by decide +kernel
theorem dX4_collide_107 : decode cX4_collide 107 = .ok (.invokevirtual 64, 3) := by decide +kernel
theorem dX4_collide_110 : decode cX4_collide 110 = .ok (.iconst 1, 1) := by decide +kernel
theorem dX4_collide_111 : decode cX4_collide 111 = .ok (.iadd, 1) := by decide +kernel
theorem dX4_collide_112 : decode cX4_collide 112 = .ok (.invokevirtual 133, 3) := by decide +kernel
theorem dX4_collide_115 : decode cX4_collide 115 = .ok (.return_, 1) := by decide +kernel
theorem dX4_soak_0 : decode cX4_soak 0 = .ok (.aload_n 1, 1) := by decide +kernel
theorem dX4_soak_1 : decode cX4_soak 1 = .ok (.iload_n 2, 1) := by decide +kernel
theorem dX4_soak_2 : decode cX4_soak 2 = .ok (.invokevirtual 146, 3) := by decide +kernel
theorem dX4_soak_5 : decode cX4_soak 5 = .ok (.istore_n 3, 1) := by decide +kernel
theorem dX4_soak_6 : decode cX4_soak 6 = .ok (.aload_n 1, 1) := by decide +kernel
theorem dX4_soak_7 : decode cX4_soak 7 = .ok (.getfield 87, 3) := by decide +kernel
theorem dX4_soak_10 : decode cX4_soak 10 = .ok (.iload_n 2, 1) := by decide +kernel
theorem dX4_soak_11 : decode cX4_soak 11 = .ok (.iconst 4, 1) := by decide +kernel
theorem dX4_soak_12 : decode cX4_soak 12 = .ok (.invokevirtual 64, 3) := by decide +kernel
theorem dX4_soak_15 : decode cX4_soak 15 = .ok (.iconst 1, 1) := by decide +kernel
theorem dX4_soak_16 : decode cX4_soak 16 = .ok (.iadd, 1) := by decide +kernel
theorem dX4_soak_17 : decode cX4_soak 17 = .ok (.aload_n 1, 1) := by decide +kernel
theorem dX4_soak_18 : decode cX4_soak 18 = .ok (.getfield 115, 3) := by decide +kernel
theorem dX4_soak_21 : decode cX4_soak 21 = .ok (.iload_n 3, 1) := by decide +kernel
theorem dX4_soak_22 : decode cX4_soak 22 = .ok (.invokevirtual 121, 3) := by decide +kernel
theorem dX4_soak_25 : decode cX4_soak 25 = .ok (.bipush 10, 2) := by decide +kernel
theorem dX4_soak_27 : decode cX4_soak 27 = .ok (.idiv, 1) := by decide +kernel
theorem dX4_soak_28 : decode cX4_soak 28 = .ok (.iadd, 1) := by decide +kernel
theorem dX4_soak_29 : decode cX4_soak 29 = .ok (.istore 4, 2) := by decide +kernel
theorem dX4_soak_31 : decode cX4_soak 31 = .ok (.aload_n 1, 1) := by decide +kernel
theorem dX4_soak_32 : decode cX4_soak 32 = .ok (.getfield 87, 3) := by decide +kernel
theorem dX4_soak_35 : decode cX4_soak 35 = .ok (.iload_n 2, 1) := by decide +kernel
theorem dX4_soak_36 : decode cX4_soak 36 = .ok (.iconst 4, 1) := by decide +kernel
theorem dX4_soak_37 : decode cX4_soak 37 = .ok (.iload 4, 2) := by decide +kernel
theorem dX4_soak_39 : decode cX4_soak 39 = .ok (.invokevirtual 133, 3) := by decide +kernel
theorem dX4_soak_42 : decode cX4_soak 42 = .ok (.iload 4, 2) := by decide +kernel
theorem dX4_soak_44 : decode cX4_soak 44 = .ok (.aload_n 1, 1) := by decide +kernel
theorem dX4_soak_45 : decode cX4_soak 45 = .ok (.getfield 87, 3) := by decide +kernel
theorem dX4_soak_48 : decode cX4_soak 48 = .ok (.iload_n 2, 1) := by decide +kernel
theorem dX4_soak_49 : decode cX4_soak 49 = .ok (.iconst 3, 1) := by decide +kernel
theorem dX4_soak_50 : decode cX4_soak 50 = .ok (.invokevirtual 64, 3) := by decide +kernel
theorem dX4_soak_53 : decode cX4_soak 53 = .ok (.if_icmp .le 12, 3) := by decide +kernel
theorem dX4_soak_56 : decode cX4_soak 56 = .ok (.aload_n 1, 1) := by decide +kernel
theorem dX4_soak_57 : decode cX4_soak 57 = .ok (.iload_n 2, 1) := by decide +kernel
theorem dX4_soak_58 : decode cX4_soak 58 = .ok (.iconst 1, 1) := by decide +kernel
theorem dX4_soak_59 : decode cX4_soak 59 = .ok (.invokevirtual 149, 3) := by decide +kernel
theorem dX4_soak_62 : decode cX4_soak 62 = .ok (.goto 47, 3) := by decide +kernel
theorem dX4_soak_65 : decode cX4_soak 65 = .ok (.aload_n 1, 1) := by decide +kernel
theorem dX4_soak_66 : decode cX4_soak 66 = .ok (.iload_n 3, 1) := by decide +kernel
theorem dX4_soak_67 : decode cX4_soak 67 = .ok (.iload_n 2, 1) := by decide +kernel
theorem dX4_soak_68 : decode cX4_soak 68 = .ok (.invokevirtual 152, 3) := by decide +kernel
theorem dX4_soak_71 : decode cX4_soak 71 = .ok (.ifCond .eq 38, 3) := by decide +kernel
theorem dX4_soak_74 : decode cX4_soak 74 = .ok (.aload_n 1, 1) := by decide +kernel
theorem dX4_soak_75 : decode cX4_soak 75 = .ok (.iload_n 3, 1) := by decide +kernel
theorem dX4_soak_76 : decode cX4_soak 76 = .ok (.invokevirtual 156, 3) := by decide +kernel
theorem dX4_soak_79 : decode cX4_soak 79 = .ok (.istore 5, 2) := by decide +kernel
theorem dX4_soak_81 : decode cX4_soak 81 = .ok (.aload_n 1, 1) := by decide +kernel
theorem dX4_soak_82 : decode cX4_soak 82 = .ok (.getfield 76, 3) := by decide +kernel
theorem dX4_soak_85 : decode cX4_soak 85 = .ok (.iload 5, 2) := by decide +kernel
theorem dX4_soak_87 : decode cX4_soak 87 = .ok (.iconst 5, 1) := by decide +kernel
theorem dX4_soak_88 : decode cX4_soak 88 = .ok (.aload_n 1, 1) := by decide +kernel
theorem dX4_soak_89 : decode cX4_soak 89 = .ok (.getfield 76, 3) := by decide +kernel
theorem dX4_soak_92 : decode cX4_soak 92 = .ok (.iload 5, 2) := by decide +kernel
theorem dX4_soak_94 : decode cX4_soak 94 = .ok (.iconst 5, 1) := by decide +kernel
theorem dX4_soak_95 : decode cX4_soak 95 = .ok (.invokevirtual 64, 3) := by decide +kernel
theorem dX4_soak_98 : decode cX4_soak 98 = .ok (.iconst 1, 1) := by decide +kernel
theorem dX4_soak_99 : decode cX4_soak 99 = .ok (.iadd, 1) := by decide +kernel
theorem dX4_soak_100 : decode cX4_soak 100 = .ok (.invokevirtual 133, 3) := by decide +kernel
theorem dX4_soak_103 : decode cX4_soak 103 = .ok (.aload_n 1, 1) := by decide +kernel
theorem dX4_soak_104 : decode cX4_soak 104 = .ok (.iload_n 2, 1) := by decide +kernel
theorem dX4_soak_105 : decode cX4_soak 105 = .ok (.iconst 2, 1) := by decide +kernel
theorem dX4_soak_106 : decode cX4_soak 106 = .ok (.invokevirtual 149, 3) := by decide +kernel
theorem dX4_soak_109 : decode cX4_soak 109 = .ok (.return_, 1) := by decide +kernel
theorem dX4_spreadSoap_0 : decode cX4_spreadSoap 0 = .ok (.aload_n 0, 1) := by decide +kernel
theorem dX4_spreadSoap_1 : decode cX4_spreadSoap 1 = .ok (.getfield 23, 3) := by decide +kernel
theorem dX4_spreadSoap_4 : decode cX4_spreadSoap 4 = .ok (.iconst 0, 1) := by decide +kernel
theorem dX4_spreadSoap_5 : decode cX4_spreadSoap 5 = .ok (.invokevirtual 159, 3) := by decide +kernel
theorem dX4_spreadSoap_8 : decode cX4_spreadSoap 8 = .ok (.iconst 0, 1) := by decide +kernel
theorem dX4_spreadSoap_9 : decode cX4_spreadSoap 9 = .ok (.istore_n 2, 1) := by decide +kernel
theorem dX4_spreadSoap_10 : decode cX4_spreadSoap 10 = .ok (.iload_n 2, 1) := by decide +kernel
theorem dX4_spreadSoap_11 : decode cX4_spreadSoap 11 = .ok (.aload_n 1, 1) := by decide +kernel
theorem dX4_spreadSoap_12 : decode cX4_spreadSoap 12 = .ok (.getfield 163, 3) := by decide +kernel
theorem dX4_spreadSoap_15 : decode cX4_spreadSoap 15 = .ok (.if_icmp .ge 102, 3) := by decide +kernel
theorem dX4_spreadSoap_18 : decode cX4_spreadSoap 18 = .ok (.iconst 0, 1) := by decide +kernel
theorem dX4_spreadSoap_19 : decode cX4_spreadSoap 19 = .ok (.istore_n 3, 1) := by decide +kernel
theorem dX4_spreadSoap_20 : decode cX4_spreadSoap 20 = .ok (.iload_n 3, 1) := by decide +kernel
theorem dX4_spreadSoap_21 : decode cX4_spreadSoap 21 = .ok (.aload_n 1, 1) := by decide +kernel
theorem dX4_spreadSoap_22 : decode cX4_spreadSoap 22 = .ok (.getfield 166, 3) := by decide +kernel
theorem dX4_spreadSoap_25 : decode cX4_spreadSoap 25 = .ok (.if_icmp .ge 86, 3) := by decide +kernel
theorem dX4_spreadSoap_28 : decode cX4_spreadSoap 28 = .ok (.aload_n 1, 1) := by decide +kernel
theorem dX4_spreadSoap_29 : decode cX4_spreadSoap 29 = .ok (.iload_n 3, 1) := by decide +kernel
theorem dX4_spreadSoap_30 : decode cX4_spreadSoap 30 = .ok (.iload_n 2, 1) := by decide +kernel
theorem dX4_spreadSoap_31 : decode cX4_spreadSoap 31 = .ok (.invokevirtual 118, 3) := by decide +kernel
theorem dX4_spreadSoap_34 : decode cX4_spreadSoap 34 = .ok (.istore 4, 2) := by decide +kernel
theorem dX4_spreadSoap_36 : decode cX4_spreadSoap 36 = .ok (.aload_n 1, 1) := by decide +kernel
theorem dX4_spreadSoap_37 : decode cX4_spreadSoap 37 = .ok (.getfield 115, 3) := by decide +kernel
theorem dX4_spreadSoap_40 : decode cX4_spreadSoap 40 = .ok (.iload 4, 2) := by decide +kernel
theorem dX4_spreadSoap_42 : decode cX4_spreadSoap 42 = .ok (.invokevirtual 121, 3) := by decide +kernel
theorem dX4_spreadSoap_45 : decode cX4_spreadSoap 45 = .ok (.iconst 4, 1) := by decide +kernel
theorem dX4_spreadSoap_46 : decode cX4_spreadSoap 46 = .ok (.if_icmp .lt 59, 3) := by decide +kernel
theorem dX4_spreadSoap_49 : decode cX4_spreadSoap 49 = .ok (.aload_n 0, 1) := by decide +kernel
theorem dX4_spreadSoap_50 : decode cX4_spreadSoap 50 = .ok (.iload 4, 2) := by decide +kernel
theorem dX4_spreadSoap_52 : decode cX4_spreadSoap 52 = .ok (.aload_n 1, 1) := by decide +kernel
theorem dX4_spreadSoap_53 : decode cX4_spreadSoap 53 = .ok (.iload_n 3, 1) := by decide +kernel
theorem dX4_spreadSoap_54 : decode cX4_spreadSoap 54 = .ok (.iload_n 2, 1) := by decide +kernel
theorem dX4_spreadSoap_55 : decode cX4_spreadSoap 55 = .ok (.iconst 1, 1) := by decide +kernel
theorem dX4_spreadSoap_56 : decode cX4_spreadSoap 56 = .ok (.isub, 1) := by decide +kernel
theorem dX4_spreadSoap_57 : decode cX4_spreadSoap 57 = .ok (.invokevirtual 118, 3) := by decide +kernel
theorem dX4_spreadSoap_60 : decode cX4_spreadSoap 60 = .ok (.invokevirtual 169, 3) := by decide +kernel
theorem dX4_spreadSoap_63 : decode cX4_spreadSoap 63 = .ok (.aload_n 0, 1) := by decide +kernel
theorem dX4_spreadSoap_64 : decode cX4_spreadSoap 64 = .ok (.iload 4, 2) := by decide +kernel
theorem dX4_spreadSoap_66 : decode cX4_spreadSoap 66 = .ok (.aload_n 1, 1) := by decide +kernel
theorem dX4_spreadSoap_67 : decode cX4_spreadSoap 67 = .ok (.iload_n 3, 1) := by decide +kernel
theorem dX4_spreadSoap_68 : decode cX4_spreadSoap 68 = .ok (.iconst 1, 1) := by decide +kernel
theorem dX4_spreadSoap_69 : decode cX4_spreadSoap 69 = .ok (.isub, 1) := by decide +kernel
theorem dX4_spreadSoap_70 : decode cX4_spreadSoap 70 = .ok (.iload_n 2, 1) := by decide +kernel
theorem dX4_spreadSoap_71 : decode cX4_spreadSoap 71 = .ok (.invokevirtual 118, 3) := by decide +kernel
theorem dX4_spreadSoap_74 : decode cX4_spreadSoap 74 = .ok (.invokevirtual 169, 3) := by decide +kernel
theorem dX4_spreadSoap_77 : decode cX4_spreadSoap 77 = .ok (.aload_n 0, 1) := by decide +kernel
theorem dX4_spreadSoap_78 : decode cX4_spreadSoap 78 = .ok (.iload 4, 2) := by decide +kernel
theorem dX4_spreadSoap_80 : decode cX4_spreadSoap 80 = .ok (.aload_n 1, 1) := by decide +kernel
theorem dX4_spreadSoap_81 : decode cX4_spreadSoap 81 = .ok (.iload_n 3, 1) := by decide +kernel
theorem dX4_spreadSoap_82 : decode cX4_spreadSoap 82 = .ok (.iconst 1, 1) := by decide +kernel
theorem dX4_spreadSoap_83 : decode cX4_spreadSoap 83 = .ok (.iadd, 1) := by decide +kernel
theorem dX4_spreadSoap_84 : decode cX4_spreadSoap 84 = .ok (.iload_n 2, 1) := by decide +kernel
theorem dX4_spreadSoap_85 : decode cX4_spreadSoap 85 = .ok (.invokevirtual 118, 3) := by decide +kernel
theorem dX4_spreadSoap_88 : decode cX4_spreadSoap 88 = .ok (.invokevirtual 169, 3) := by decide +kernel
theorem dX4_spreadSoap_91 : decode cX4_spreadSoap 91 = .ok (.aload_n 0, 1) := by decide +kernel
theorem dX4_spreadSoap_92 : decode cX4_spreadSoap 92 = .ok (.iload 4, 2) := by decide +kernel
theorem dX4_spreadSoap_94 : decode cX4_spreadSoap 94 = .ok (.aload_n 1, 1) := by decide +kernel
theorem dX4_spreadSoap_95 : decode cX4_spreadSoap 95 = .ok (.iload_n 3, 1) := by decide +kernel
theorem dX4_spreadSoap_96 : decode cX4_spreadSoap 96 = .ok (.iload_n 2, 1) := by decide +kernel
theorem dX4_spreadSoap_97 : decode cX4_spreadSoap 97 = .ok (.iconst 1, 1) := by decide +kernel
theorem dX4_spreadSoap_98 : decode cX4_spreadSoap 98 = .ok (.iadd, 1) := by decide +kernel
theorem dX4_spreadSoap_99 : decode cX4_spreadSoap 99 = .ok (.invokevirtual 118, 3) := by decide +kernel
theorem dX4_spreadSoap_102 : decode cX4_spreadSoap 102 = .ok (.invokevirtual 169, 3) := by decide +kernel
theorem dX4_spreadSoap_105 : decode cX4_spreadSoap 105 = .ok (.iinc 3 1, 3) := by decide +kernel
theorem dX4_spreadSoap_108 : decode cX4_spreadSoap 108 = .ok (.goto (-88), 3) := by decide +kernel
theorem dX4_spreadSoap_111 : decode cX4_spreadSoap 111 = .ok (.iinc 2 1, 3) := by decide +kernel
theorem dX4_spreadSoap_114 : decode cX4_spreadSoap 114 = .ok (.goto (-104), 3) := by decide +kernel
theorem dX4_spreadSoap_117 : decode cX4_spreadSoap 117 = .ok (.iconst 0, 1) := by decide +kernel
theorem dX4_spreadSoap_118 : decode cX4_spreadSoap 118 = .ok (.istore_n 2, 1) := by decide +kernel
theorem dX4_spreadSoap_119 : decode cX4_spreadSoap 119 = .ok (.iload_n 2, 1) := by decide +kernel
theorem dX4_spreadSoap_120 : decode cX4_spreadSoap 120 = .ok (.aload_n 1, 1) := by decide +kernel
theorem dX4_spreadSoap_121 : decode cX4_spreadSoap 121 = .ok (.invokevirtual 172, 3) := by decide +kernel
theorem dX4_spreadSoap_124 : decode cX4_spreadSoap 124 = .ok (.if_icmp .ge 22, 3) := by decide +kernel
theorem dX4_spreadSoap_127 : decode cX4_spreadSoap 127 = .ok (.aload_n 1, 1) := by decide +kernel
theorem dX4_spreadSoap_128 : decode cX4_spreadSoap 128 = .ok (.iload_n 2, 1) := by decide +kernel
theorem dX4_spreadSoap_129 : decode cX4_spreadSoap 129 = .ok (.aload_n 0, 1) := by decide +kernel
theorem dX4_spreadSoap_130 : decode cX4_spreadSoap 130 = .ok (.getfield 23, 3) := by decide +kernel
theorem dX4_spreadSoap_133 : decode cX4_spreadSoap 133 = .ok (.iload_n 2, 1) := by decide +kernel
theorem dX4_spreadSoap_134 : decode cX4_spreadSoap 134 = .ok (.invokevirtual 121, 3) := by decide +kernel
theorem dX4_spreadSoap_137 : decode cX4_spreadSoap 137 = .ok (.invokevirtual 176, 3) := by decide +kernel
theorem dX4_spreadSoap_140 : decode cX4_spreadSoap 140 = .ok (.iinc 2 1, 3) := by decide +kernel
theorem dX4_spreadSoap_143 : decode cX4_spreadSoap 143 = .ok (.goto (-24), 3) := by decide +kernel
theorem dX4_spreadSoap_146 : decode cX4_spreadSoap 146 = .ok (.return_, 1) := by decide +kernel
theorem dX4_give_0 : decode cX4_give 0 = .ok (.iload_n 2, 1) := by decide +kernel
theorem dX4_give_1 : decode cX4_give 1 = .ok (.iconst (-1), 1) := by decide +kernel
theorem dX4_give_2 : decode cX4_give 2 = .ok (.if_icmp .eq 39, 3) := by decide +kernel
theorem dX4_give_5 : decode cX4_give 5 = .ok (.aload_n 0, 1) := by decide +kernel
theorem dX4_give_6 : decode cX4_give 6 = .ok (.getfield 23, 3) := by decide +kernel
theorem dX4_give_9 : decode cX4_give 9 = .ok (.iload_n 1, 1) := by decide +kernel
theorem dX4_give_10 : decode cX4_give 10 = .ok (.aload_n 0, 1) := by decide +kernel
theorem dX4_give_11 : decode cX4_give 11 = .ok (.getfield 23, 3) := by decide +kernel
theorem dX4_give_14 : decode cX4_give 14 = .ok (.iload_n 1, 1) := by decide +kernel
theorem dX4_give_15 : decode cX4_give 15 = .ok (.invokevirtual 121, 3) := by decide +kernel
theorem dX4_give_18 : decode cX4_give 18 = .ok (.iconst 1, 1) := by decide +kernel
theorem dX4_give_19 : decode cX4_give 19 = .ok (.isub, 1) := by decide +kernel
theorem dX4_give_20 : decode cX4_give 20 = .ok (.invokevirtual 179, 3) := by decide +kernel
theorem dX4_give_23 : decode cX4_give 23 = .ok (.aload_n 0, 1) := by decide +kernel
theorem dX4_give_24 : decode cX4_give 24 = .ok (.getfield 23, 3) := by decide +kernel
theorem dX4_give_27 : decode cX4_give 27 = .ok (.iload_n 2, 1) := by decide +kernel
theorem dX4_give_28 : decode cX4_give 28 = .ok (.aload_n 0, 1) := by decide +kernel
theorem dX4_give_29 : decode cX4_give 29 = .ok (.getfield 23, 3) := by decide +kernel
theorem dX4_give_32 : decode cX4_give 32 = .ok (.iload_n 2, 1) := by decide +kernel
theorem dX4_give_33 : decode cX4_give 33 = .ok (.invokevirtual 121, 3) := by decide +kernel
theorem dX4_give_36 : decode cX4_give 36 = .ok (.iconst 1, 1) := by decide +kernel
theorem dX4_give_37 : decode cX4_give 37 = .ok (.iadd, 1) := by decide +kernel
theorem dX4_give_38 : decode cX4_give 38 = .ok (.invokevirtual 179, 3) := by decide +kernel
theorem dX4_give_41 : decode cX4_give 41 = .ok (.return_, 1) := by decide +kernel
theorem dX5_init_0 : decode cX5_init 0 = .ok (.aload_n 0, 1) := by decide +kernel
theorem dX5_init_1 : decode cX5_init 1 = .ok (.invokespecial 3, 3) := by decide +kernel
theorem dX5_init_4 : decode cX5_init 4 = .ok (.aload_n 0, 1) := by decide +kernel
theorem dX5_init_5 : decode cX5_init 5 = .ok (.aload_n 1, 1) := by decide +kernel
theorem dX5_init_6 : decode cX5_init 6 = .ok (.putfield 9, 3) := by decide +kernel
theorem dX5_init_9 : decode cX5_init 9 = .ok (.aload_n 0, 1) := by decide +kernel
theorem dX5_init_10 : decode cX5_init 10 = .ok (.aload_n 2, 1) := by decide +kernel
theorem dX5_init_11 : decode cX5_init 11 = .ok (.putfield 15, 3) := by decide +kernel
theorem dX5_init_14 : decode cX5_init 14 = .ok (.return_, 1) := by decide +kernel
theorem dX5_evaluate_0 : decode cX5_evaluate 0 = .ok (.aload_n 0, 1) := by decide +kernel
theorem dX5_evaluate_1 : decode cX5_evaluate 1 = .ok (.getfield 9, 3) := by decide +kernel
theorem dX5_evaluate_4 : decode cX5_evaluate 4 = .ok (.ldc 19, 2) := by decide +kernel
theorem dX5_evaluate_6 : decode cX5_evaluate 6 = .ok (.invokevirtual 21, 3) := by decide +kernel
theorem dX5_evaluate_9 : decode cX5_evaluate 9 = .ok (.istore_n 1, 1) := by decide +kernel
theorem dX5_evaluate_10 : decode cX5_evaluate 10 = .ok (.iload_n 1, 1) := by decide +kernel
theorem dX5_evaluate_11 : decode cX5_evaluate 11 = .ok (.ifCond .ne 23, 3) := by decide +kernel
theorem dX5_evaluate_14 : decode cX5_evaluate 14 = .ok (.aload_n 0, 1) := by decide +kernel
theorem dX5_evaluate_15 : decode cX5_evaluate 15 = .ok (.getfield 9, 3) := by decide +kernel
theorem dX5_evaluate_18 : decode cX5_evaluate 18 = .ok (.ldc 27, 2) := by decide +kernel
theorem dX5_evaluate_20 : decode cX5_evaluate 20 = .ok (.invokevirtual 21, 3) := by decide +kernel
theorem dX5_evaluate_23 : decode cX5_evaluate 23 = .ok (.ifCond .ne 11, 3) := by decide +kernel
theorem dX5_evaluate_26 : decode cX5_evaluate 26 = .ok (.aload_n 0, 1) := by decide +kernel
theorem dX5_evaluate_27 : decode cX5_evaluate 27 = .ok (.getfield 9, 3) := by decide +kernel
theorem dX5_evaluate_30 : decode cX5_evaluate 30 = .ok (.iconst 1, 1) := by decide +kernel
theorem dX5_evaluate_31 : decode cX5_evaluate 31 = .ok (.invokevirtual 29, 3) := by decide +kernel
theorem dX5_evaluate_34 : decode cX5_evaluate 34 = .ok (.aload_n 0, 1) := by decide +kernel
theorem dX5_evaluate_35 : decode cX5_evaluate 35 = .ok (.getfield 9, 3) := by decide +kernel
theorem dX5_evaluate_38 : decode cX5_evaluate 38 = .ok (.invokevirtual 33, 3) := by decide +kernel
theorem dX5_evaluate_41 : decode cX5_evaluate 41 = .ok (.aload_n 0, 1) := by decide +kernel
theorem dX5_evaluate_42 : decode cX5_evaluate 42 = .ok (.iconst 0, 1) := by decide +kernel
theorem dX5_evaluate_43 : decode cX5_evaluate 43 = .ok (.invokevirtual 36, 3) := by decide +kernel
theorem dX5_evaluate_46 : decode cX5_evaluate 46 = .ok (.istore_n 2, 1) := by decide +kernel
theorem dX5_evaluate_47 : decode cX5_evaluate 47 = .ok (.aload_n 0, 1) := by decide +kernel
theorem dX5_evaluate_48 : decode cX5_evaluate 48 = .ok (.getfield 9, 3) := by decide +kernel
theorem dX5_evaluate_51 : decode cX5_evaluate 51 = .ok (.getfield 40, 3) := by decide +kernel
theorem dX5_evaluate_54 : decode cX5_evaluate 54 = .ok (.ifCond .eq 11, 3) := by decide +kernel
theorem dX5_evaluate_57 : decode cX5_evaluate 57 = .ok (.aload_n 0, 1) := by decide +kernel
theorem dX5_evaluate_58 : decode cX5_evaluate 58 = .ok (.getfield 9, 3) := by decide +kernel
theorem dX5_evaluate_61 : decode cX5_evaluate 61 = .ok (.iconst 1, 1) := by decide +kernel
theorem dX5_evaluate_62 : decode cX5_evaluate 62 = .ok (.invokevirtual 29, 3) := by decide +kernel
theorem dX5_evaluate_65 : decode cX5_evaluate 65 = .ok (.iload_n 1, 1) := by decide +kernel
theorem dX5_evaluate_66 : decode cX5_evaluate 66 = .ok (.ifCond .eq 10, 3) := by decide +kernel
theorem dX5_evaluate_69 : decode cX5_evaluate 69 = .ok (.iload_n 2, 1) := by decide +kernel
theorem dX5_evaluate_70 : decode cX5_evaluate 70 = .ok (.invokestatic 44, 3) := by decide +kernel
theorem dX5_evaluate_73 : decode cX5_evaluate 73 = .ok (.goto 8, 3) := by decide +kernel
theorem dX5_evaluate_76 : decode cX5_evaluate 76 = .ok (.aload_n 0, 1) := by decide +kernel
theorem dX5_evaluate_77 : decode cX5_evaluate 77 = .ok (.iload_n 2, 1) := by decide +kernel
theorem dX5_evaluate_78 : decode cX5_evaluate 78 = .ok (.invokevirtual 49, 3) := by decide +kernel
theorem dX5_evaluate_81 : decode cX5_evaluate 81 = .ok (.ireturn, 1) := by decide +kernel
theorem dX5_firstOf_0 : decode cX5_firstOf 0 = .ok (.iconst 0, 1) := by decide +kernel
theorem dX5_firstOf_1 : decode cX5_firstOf 1 = .ok (.istore_n 2, 1) := by decide +kernel
theorem dX5_firstOf_2 : decode cX5_firstOf 2 = .ok (.iload_n 2, 1) := by decide +kernel
theorem dX5_firstOf_3 : decode cX5_firstOf 3 = .ok (.aload_n 0, 1) := by decide +kernel
theorem dX5_firstOf_4 : decode cX5_firstOf 4 = .ok (.getfield 15, 3) := by decide +kernel
theorem dX5_firstOf_7 : decode cX5_firstOf 7 = .ok (.getfield 52, 3) := by decide +kernel
theorem dX5_firstOf_10 : decode cX5_firstOf 10 = .ok (.if_icmp .ge 20, 3) := by decide +kernel
theorem dX5_firstOf_13 : decode cX5_firstOf 13 = .ok (.iload_n 1, 1) := by decide +kernel
theorem dX5_firstOf_14 : decode cX5_firstOf 14 = .ok (.iload_n 2, 1) := by decide +kernel
theorem dX5_firstOf_15 : decode cX5_firstOf 15 = .ok (.ishr, 1) := by decide +kernel
theorem dX5_firstOf_16 : decode cX5_firstOf 16 = .ok (.iconst 1, 1) := by decide +kernel
theorem dX5_firstOf_17 : decode cX5_firstOf 17 = .ok (.iand, 1) := by decide +kernel
theorem dX5_firstOf_18 : decode cX5_firstOf 18 = .ok (.iconst 1, 1) := by decide +kernel
theorem dX5_firstOf_19 : decode cX5_firstOf 19 = .ok (.if_icmp .ne 5, 3) := by decide +kernel
theorem dX5_firstOf_22 : decode cX5_firstOf 22 = .ok (.iload_n 2, 1) := by decide +kernel
theorem dX5_firstOf_23 : decode cX5_firstOf 23 = .ok (.ireturn, 1) := by decide +kernel
theorem dX5_firstOf_24 : decode cX5_firstOf 24 = .ok (.iinc 2 1, 3) := by decide +kernel
theorem dX5_firstOf_27 : decode cX5_firstOf 27 = .ok (.goto (-25), 3) := by decide +kernel
theorem dX5_firstOf_30 : decode cX5_firstOf 30 = .ok (.iconst (-1), 1) := by decide +kernel
theorem dX5_firstOf_31 : decode cX5_firstOf 31 = .ok (.ireturn, 1) := by decide +kernel
theorem dX5_readTest_0 : decode cX5_readTest 0 = .ok (.iconst 0, 1) := by decide +kernel
theorem dX5_readTest_1 : decode cX5_readTest 1 = .ok (.istore_n 2, 1) := by decide +kernel
theorem dX5_readTest_2 : decode cX5_readTest 2 = .ok (.aload_n 0, 1) := by decide +kernel
theorem dX5_readTest_3 : decode cX5_readTest 3 = .ok (.iload_n 1, 1) := by decide +kernel
theorem dX5_readTest_4 : decode cX5_readTest 4 = .ok (.invokevirtual 57, 3) := by decide +kernel
theorem dX5_readTest_7 : decode cX5_readTest 7 = .ok (.istore_n 3, 1) := by decide +kernel
theorem dX5_readTest_8 : decode cX5_readTest 8 = .ok (.iconst 0, 1) := by decide +kernel
theorem dX5_readTest_9 : decode cX5_readTest 9 = .ok (.istore 4, 2) := by decide +kernel
theorem dX5_readTest_11 : decode cX5_readTest 11 = .ok (.iload 4, 2) := by decide +kernel
theorem dX5_readTest_13 : decode cX5_readTest 13 = .ok (.sipush 200, 3) := by decide +kernel
theorem dX5_readTest_16 : decode cX5_readTest 16 = .ok (.if_icmp .ge 64, 3) := by decide +kernel
theorem dX5_readTest_19 : decode cX5_readTest 19 = .ok (.aload_n 0, 1) := by decide +kernel
theorem dX5_readTest_20 : decode cX5_readTest 20 = .ok (.getfield 9, 3) := by decide +kernel
theorem dX5_readTest_23 : decode cX5_readTest 23 = .ok (.invokevirtual 60, 3) := by decide +kernel
theorem dX5_readTest_26 : decode cX5_readTest 26 = .ok (.ifCond .eq 54, 3) := by decide +kernel
theorem dX5_readTest_29 : decode cX5_readTest 29 = .ok (.aload_n 0, 1) := by decide +kernel
theorem dX5_readTest_30 : decode cX5_readTest 30 = .ok (.getfield 9, 3) := by decide +kernel
theorem dX5_readTest_33 : decode cX5_readTest 33 = .ok (.ldc 64, 2) := by decide +kernel
theorem dX5_readTest_35 : decode cX5_readTest 35 = .ok (.invokevirtual 66, 3) := by decide +kernel
theorem dX5_readTest_38 : decode cX5_readTest 38 = .ok (.ifCond .eq 14, 3) := by decide +kernel
theorem dX5_readTest_41 : decode cX5_readTest 41 = .ok (.iload_n 3, 1) := by decide +kernel
theorem dX5_readTest_42 : decode cX5_readTest 42 = .ok (.aload_n 0, 1) := by decide +kernel
theorem dX5_readTest_43 : decode cX5_readTest 43 = .ok (.iload_n 1, 1) := by decide +kernel
theorem dX5_readTest_44 : decode cX5_readTest 44 = .ok (.invokevirtual 57, 3) := by decide +kernel
theorem dX5_readTest_47 : decode cX5_readTest 47 = .ok (.iand, 1) := by decide +kernel
theorem dX5_readTest_48 : decode cX5_readTest 48 = .ok (.istore_n 3, 1) := by decide +kernel
theorem dX5_readTest_49 : decode cX5_readTest 49 = .ok (.goto 25, 3) := by decide +kernel
theorem dX5_readTest_52 : decode cX5_readTest 52 = .ok (.aload_n 0, 1) := by decide +kernel
theorem dX5_readTest_53 : decode cX5_readTest 53 = .ok (.getfield 9, 3) := by decide +kernel
theorem dX5_readTest_56 : decode cX5_readTest 56 = .ok (.ldc 69, 2) := by decide +kernel
theorem dX5_readTest_58 : decode cX5_readTest 58 = .ok (.invokevirtual 66, 3) := by decide +kernel
theorem dX5_readTest_61 : decode cX5_readTest 61 = .ok (.ifCond .eq 19, 3) := by decide +kernel
theorem dX5_readTest_64 : decode cX5_readTest 64 = .ok (.iload_n 2, 1) := by decide +kernel
theorem dX5_readTest_65 : decode cX5_readTest 65 = .ok (.iload_n 3, 1) := by decide +kernel
theorem dX5_readTest_66 : decode cX5_readTest 66 = .ok (.ior, 1) := by decide +kernel
theorem dX5_readTest_67 : decode cX5_readTest 67 = .ok (.istore_n 2, 1) := by decide +kernel
theorem dX5_readTest_68 : decode cX5_readTest 68 = .ok (.aload_n 0, 1) := by decide +kernel
theorem dX5_readTest_69 : decode cX5_readTest 69 = .ok (.iload_n 1, 1) := by decide +kernel
theorem dX5_readTest_70 : decode cX5_readTest 70 = .ok (.invokevirtual 57, 3) := by decide +kernel
theorem dX5_readTest_73 : decode cX5_readTest 73 = .ok (.istore_n 3, 1) := by decide +kernel
theorem dX5_readTest_74 : decode cX5_readTest 74 = .ok (.iinc 4 1, 3) := by decide +kernel
theorem dX5_readTest_77 : decode cX5_readTest 77 = .ok (.goto (-66), 3) := by decide +kernel
theorem dX5_readTest_80 : decode cX5_readTest 80 = .ok (.iload_n 2, 1) := by decide +kernel
theorem dX5_readTest_81 : decode cX5_readTest 81 = .ok (.iload_n 3, 1) := by decide +kernel
theorem dX5_readTest_82 : decode cX5_readTest 82 = .ok (.ior, 1) := by decide +kernel
theorem dX5_readTest_83 : decode cX5_readTest 83 = .ok (.ireturn, 1) := by decide +kernel
theorem dX5_readFactor_0 : decode cX5_readFactor 0 = .ok (.aload_n 0, 1) := by decide +kernel
theorem dX5_readFactor_1 : decode cX5_readFactor 1 = .ok (.getfield 9, 3) := by decide +kernel
theorem dX5_readFactor_4 : decode cX5_readFactor 4 = .ok (.ldc 71, 2) := by decide +kernel
theorem dX5_readFactor_6 : decode cX5_readFactor 6 = .ok (.invokevirtual 21, 3) := by decide +kernel
theorem dX5_readFactor_9 : decode cX5_readFactor 9 = .ok (.istore_n 2, 1) := by decide +kernel
theorem dX5_readFactor_10 : decode cX5_readFactor 10 = .ok (.iload_n 2, 1) := by decide +kernel
theorem dX5_readFactor_11 : decode cX5_readFactor 11 = .ok (.ifCond .ne 15, 3) := by decide +kernel
theorem dX5_readFactor_14 : decode cX5_readFactor 14 = .ok (.aload_n 0, 1) := by decide +kernel
theorem dX5_readFactor_15 : decode cX5_readFactor 15 = .ok (.getfield 9, 3) := by decide +kernel
theorem dX5_readFactor_18 : decode cX5_readFactor 18 = .ok (.bipush 40, 2) := by decide +kernel
theorem dX5_readFactor_20 : decode cX5_readFactor 20 = .ok (.invokevirtual 73, 3) := by decide +kernel
theorem dX5_readFactor_23 : decode cX5_readFactor 23 = .ok (.ifCond .eq 71, 3) := by decide +kernel
theorem dX5_readFactor_26 : decode cX5_readFactor 26 = .ok (.iload_n 1, 1) := by decide +kernel
theorem dX5_readFactor_27 : decode cX5_readFactor 27 = .ok (.bipush 6, 2) := by decide +kernel
theorem dX5_readFactor_29 : decode cX5_readFactor 29 = .ok (.if_icmp .lt 13, 3) := by decide +kernel
theorem dX5_readFactor_32 : decode cX5_readFactor 32 = .ok (.aload_n 0, 1) := by decide +kernel
theorem dX5_readFactor_33 : decode cX5_readFactor 33 = .ok (.getfield 9, 3) := by decide +kernel
theorem dX5_readFactor_36 : decode cX5_readFactor 36 = .ok (.iconst 3, 1) := by decide +kernel
theorem dX5_readFactor_37 : decode cX5_readFactor 37 = .ok (.invokevirtual 29, 3) := by decide +kernel
theorem dX5_readFactor_40 : decode cX5_readFactor 40 = .ok (.iconst 0, 1) := by decide +kernel
theorem dX5_readFactor_41 : decode cX5_readFactor 41 = .ok (.ireturn, 1) := by decide +kernel
theorem dX5_readFactor_42 : decode cX5_readFactor 42 = .ok (.aload_n 0, 1) := by decide +kernel
theorem dX5_readFactor_43 : decode cX5_readFactor 43 = .ok (.getfield 9, 3) := by decide +kernel
theorem dX5_readFactor_46 : decode cX5_readFactor 46 = .ok (.invokevirtual 33, 3) := by decide +kernel
theorem dX5_readFactor_49 : decode cX5_readFactor 49 = .ok (.iload_n 2, 1) := by decide +kernel
theorem dX5_readFactor_50 : decode cX5_readFactor 50 = .ok (.ifCond .eq 25, 3) := by decide +kernel
theorem dX5_readFactor_53 : decode cX5_readFactor 53 = .ok (.aload_n 0, 1) := by decide +kernel
theorem dX5_readFactor_54 : decode cX5_readFactor 54 = .ok (.iload_n 1, 1) := by decide +kernel
theorem dX5_readFactor_55 : decode cX5_readFactor 55 = .ok (.iconst 1, 1) := by decide +kernel
theorem dX5_readFactor_56 : decode cX5_readFactor 56 = .ok (.iadd, 1) := by decide +kernel
theorem dX5_readFactor_57 : decode cX5_readFactor 57 = .ok (.invokevirtual 57, 3) := by decide +kernel
theorem dX5_readFactor_60 : decode cX5_readFactor 60 = .ok (.iconst (-1), 1) := by decide +kernel
theorem dX5_readFactor_61 : decode cX5_readFactor 61 = .ok (.ixor, 1) := by decide +kernel
theorem dX5_readFactor_62 : decode cX5_readFactor 62 = .ok (.iconst 1, 1) := by decide +kernel
theorem dX5_readFactor_63 : decode cX5_readFactor 63 = .ok (.aload_n 0, 1) := by decide +kernel
theorem dX5_readFactor_64 : decode cX5_readFactor 64 = .ok (.getfield 15, 3) := by decide +kernel
theorem dX5_readFactor_67 : decode cX5_readFactor 67 = .ok (.getfield 52, 3) := by decide +kernel
theorem dX5_readFactor_70 : decode cX5_readFactor 70 = .ok (.ishl, 1) := by decide +kernel
theorem dX5_readFactor_71 : decode cX5_readFactor 71 = .ok (.iconst 1, 1) := by decide +kernel
theorem dX5_readFactor_72 : decode cX5_readFactor 72 = .ok (.isub, 1) := by decide +kernel
theorem dX5_readFactor_73 : decode cX5_readFactor 73 = .ok (.iand, 1) := by decide +kernel
theorem dX5_readFactor_74 : decode cX5_readFactor 74 = .ok (.ireturn, 1) := by decide +kernel
theorem dX5_readFactor_75 : decode cX5_readFactor 75 = .ok (.aload_n 0, 1) := by decide +kernel
theorem dX5_readFactor_76 : decode cX5_readFactor 76 = .ok (.iload_n 1, 1) := by decide +kernel
theorem dX5_readFactor_77 : decode cX5_readFactor 77 = .ok (.iconst 1, 1) := by decide +kernel
theorem dX5_readFactor_78 : decode cX5_readFactor 78 = .ok (.iadd, 1) := by decide +kernel
theorem dX5_readFactor_79 : decode cX5_readFactor 79 = .ok (.invokevirtual 36, 3) := by decide +kernel
theorem dX5_readFactor_82 : decode cX5_readFactor 82 = .ok (.istore_n 3, 1) := by decide +kernel
theorem dX5_readFactor_83 : decode cX5_readFactor 83 = .ok (.aload_n 0, 1) := by decide +kernel
theorem dX5_readFactor_84 : decode cX5_readFactor 84 = .ok (.getfield 9, 3) := by decide +kernel
theorem dX5_readFactor_87 : decode cX5_readFactor 87 = .ok (.bipush 41, 2) := by decide +kernel
theorem dX5_readFactor_89 : decode cX5_readFactor 89 = .ok (.invokevirtual 77, 3) := by decide +kernel
theorem dX5_readFactor_92 : decode cX5_readFactor 92 = .ok (.iload_n 3, 1) := by decide +kernel
theorem dX5_readFactor_93 : decode cX5_readFactor 93 = .ok (.ireturn, 1) := by decide +kernel
theorem dX5_readFactor_94 : decode cX5_readFactor 94 = .ok (.aload_n 0, 1) := by decide +kernel
theorem dX5_readFactor_95 : decode cX5_readFactor 95 = .ok (.invokevirtual 80, 3) := by decide +kernel
theorem dX5_readFactor_98 : decode cX5_readFactor 98 = .ok (.istore_n 3, 1) := by decide +kernel
theorem dX5_readFactor_99 : decode cX5_readFactor 99 = .ok (.aload_n 0, 1) := by decide +kernel
theorem dX5_readFactor_100 : decode cX5_readFactor 100 = .ok (.invokevirtual 84, 3) := by decide +kernel
theorem dX5_readFactor_103 : decode cX5_readFactor 103 = .ok (.istore 4, 2) := by decide +kernel
theorem dX5_readFactor_105 : decode cX5_readFactor 105 = .ok (.aload_n 0, 1) := by decide +kernel
theorem dX5_readFactor_106 : decode cX5_readFactor 106 = .ok (.invokevirtual 80, 3) := by decide +kernel
theorem dX5_readFactor_109 : decode cX5_readFactor 109 = .ok (.istore 5, 2) := by decide +kernel
theorem dX5_readFactor_111 : decode cX5_readFactor 111 = .ok (.aload_n 0, 1) := by decide +kernel
theorem dX5_readFactor_112 : decode cX5_readFactor 112 = .ok (.iload_n 3, 1) := by decide +kernel
theorem dX5_readFactor_113 : decode cX5_readFactor 113 = .ok (.iload 4, 2) := by decide +kernel
theorem dX5_readFactor_115 : decode cX5_readFactor 115 = .ok (.iload 5, 2) := by decide +kernel
theorem dX5_readFactor_117 : decode cX5_readFactor 117 = .ok (.invokevirtual 87, 3) := by decide +kernel
theorem dX5_readFactor_120 : decode cX5_readFactor 120 = .ok (.ireturn, 1) := by decide +kernel
theorem dX5_takeOperand_0 : decode cX5_takeOperand 0 = .ok (.bipush (-100), 2) := by decide +kernel
theorem dX5_takeOperand_2 : decode cX5_takeOperand 2 = .ok (.istore_n 1, 1) := by decide +kernel
theorem dX5_takeOperand_3 : decode cX5_takeOperand 3 = .ok (.aload_n 0, 1) := by decide +kernel
theorem dX5_takeOperand_4 : decode cX5_takeOperand 4 = .ok (.getfield 9, 3) := by decide +kernel
theorem dX5_takeOperand_7 : decode cX5_takeOperand 7 = .ok (.ldc 91, 2) := by decide +kernel
theorem dX5_takeOperand_9 : decode cX5_takeOperand 9 = .ok (.invokevirtual 21, 3) := by decide +kernel
theorem dX5_takeOperand_12 : decode cX5_takeOperand 12 = .ok (.ifCond .eq 9, 3) := by decide +kernel
theorem dX5_takeOperand_15 : decode cX5_takeOperand 15 = .ok (.bipush (-89), 2) := by decide +kernel
theorem dX5_takeOperand_17 : decode cX5_takeOperand 17 = .ok (.istore_n 1, 1) := by decide +kernel
theorem dX5_takeOperand_18 : decode cX5_takeOperand 18 = .ok (.goto 171, 3) := by decide +kernel
theorem dX5_takeOperand_21 : decode cX5_takeOperand 21 = .ok (.aload_n 0, 1) := by decide +kernel
theorem dX5_takeOperand_22 : decode cX5_takeOperand 22 = .ok (.getfield 9, 3) := by decide +kernel
theorem dX5_takeOperand_25 : decode cX5_takeOperand 25 = .ok (.ldc 93, 2) := by decide +kernel
theorem dX5_takeOperand_27 : decode cX5_takeOperand 27 = .ok (.invokevirtual 21, 3) := by decide +kernel
theorem dX5_takeOperand_30 : decode cX5_takeOperand 30 = .ok (.ifCond .eq 9, 3) := by decide +kernel
theorem dX5_takeOperand_33 : decode cX5_takeOperand 33 = .ok (.bipush (-99), 2) := by decide +kernel
theorem dX5_takeOperand_35 : decode cX5_takeOperand 35 = .ok (.istore_n 1, 1) := by decide +kernel
theorem dX5_takeOperand_36 : decode cX5_takeOperand 36 = .ok (.goto 153, 3) := by decide +kernel
theorem dX5_takeOperand_39 : decode cX5_takeOperand 39 = .ok (.aload_n 0, 1) := by decide +kernel
theorem dX5_takeOperand_40 : decode cX5_takeOperand 40 = .ok (.getfield 9, 3) := by decide +kernel
theorem dX5_takeOperand_43 : decode cX5_takeOperand 43 = .ok (.ldc 95, 2) := by decide +kernel
theorem dX5_takeOperand_45 : decode cX5_takeOperand 45 = .ok (.invokevirtual 21, 3) := by decide +kernel
theorem dX5_takeOperand_48 : decode cX5_takeOperand 48 = .ok (.ifCond .eq 9, 3) := by decide +kernel
theorem dX5_takeOperand_51 : decode cX5_takeOperand 51 = .ok (.bipush (-98), 2) := by decide +kernel
theorem dX5_takeOperand_53 : decode cX5_takeOperand 53 = .ok (.istore_n 1, 1) := by decide +kernel
theorem dX5_takeOperand_54 : decode cX5_takeOperand 54 = .ok (.goto 135, 3) := by decide +kernel
theorem dX5_takeOperand_57 : decode cX5_takeOperand 57 = .ok (.aload_n 0, 1) := by decide +kernel
theorem dX5_takeOperand_58 : decode cX5_takeOperand 58 = .ok (.getfield 9, 3) := by decide +kernel
theorem dX5_takeOperand_61 : decode cX5_takeOperand 61 = .ok (.ldc 97, 2) := by decide +kernel
theorem dX5_takeOperand_63 : decode cX5_takeOperand 63 = .ok (.invokevirtual 21, 3) := by decide +kernel
theorem dX5_takeOperand_66 : decode cX5_takeOperand 66 = .ok (.ifCond .eq 9, 3) := by decide +kernel
theorem dX5_takeOperand_69 : decode cX5_takeOperand 69 = .ok (.bipush (-97), 2) := by decide +kernel
theorem dX5_takeOperand_71 : decode cX5_takeOperand 71 = .ok (.istore_n 1, 1) := by decide +kernel
theorem dX5_takeOperand_72 : decode cX5_takeOperand 72 = .ok (.goto 117, 3) := by decide +kernel
theorem dX5_takeOperand_75 : decode cX5_takeOperand 75 = .ok (.aload_n 0, 1) := by decide +kernel
theorem dX5_takeOperand_76 : decode cX5_takeOperand 76 = .ok (.getfield 9, 3) := by decide +kernel
theorem dX5_takeOperand_79 : decode cX5_takeOperand 79 = .ok (.ldc 99, 2) := by decide +kernel
theorem dX5_takeOperand_81 : decode cX5_takeOperand 81 = .ok (.invokevirtual 21, 3) := by decide +kernel
theorem dX5_takeOperand_84 : decode cX5_takeOperand 84 = .ok (.ifCond .eq 9, 3) := by decide +kernel
theorem dX5_takeOperand_87 : decode cX5_takeOperand 87 = .ok (.bipush (-96), 2) := by decide +kernel
theorem dX5_takeOperand_89 : decode cX5_takeOperand 89 = .ok (.istore_n 1, 1) := by decide +kernel
theorem dX5_takeOperand_90 : decode cX5_takeOperand 90 = .ok (.goto 99, 3) := by decide +kernel
theorem dX5_takeOperand_93 : decode cX5_takeOperand 93 = .ok (.aload_n 0, 1) := by decide +kernel
theorem dX5_takeOperand_94 : decode cX5_takeOperand 94 = .ok (.getfield 9, 3) := by decide +kernel
theorem dX5_takeOperand_97 : decode cX5_takeOperand 97 = .ok (.ldc 101, 2) := by decide +kernel
theorem dX5_takeOperand_99 : decode cX5_takeOperand 99 = .ok (.invokevirtual 21, 3) := by decide +kernel
theorem dX5_takeOperand_102 : decode cX5_takeOperand 102 = .ok (.ifCond .eq 9, 3) := by decide +kernel
theorem dX5_takeOperand_105 : decode cX5_takeOperand 105 = .ok (.bipush (-93), 2) := by decide +kernel
theorem dX5_takeOperand_107 : decode cX5_takeOperand 107 = .ok (.istore_n 1, 1) := by decide +kernel
theorem dX5_takeOperand_108 : decode cX5_takeOperand 108 = .ok (.goto 81, 3) := by decide +kernel
theorem dX5_takeOperand_111 : decode cX5_takeOperand 111 = .ok (.aload_n 0, 1) := by decide +kernel
theorem dX5_takeOperand_112 : decode cX5_takeOperand 112 = .ok (.getfield 9, 3) := by decide +kernel
theorem dX5_takeOperand_115 : decode cX5_takeOperand 115 = .ok (.ldc 103, 2) := by decide +kernel
theorem dX5_takeOperand_117 : decode cX5_takeOperand 117 = .ok (.invokevirtual 21, 3) := by decide +kernel
theorem dX5_takeOperand_120 : decode cX5_takeOperand 120 = .ok (.ifCond .eq 9, 3) := by decide +kernel
theorem dX5_takeOperand_123 : decode cX5_takeOperand 123 = .ok (.bipush (-88), 2) := by decide +kernel
theorem dX5_takeOperand_125 : decode cX5_takeOperand 125 = .ok (.istore_n 1, 1) := by decide +kernel
theorem dX5_takeOperand_126 : decode cX5_takeOperand 126 = .ok (.goto 63, 3) := by decide +kernel
theorem dX5_takeOperand_129 : decode cX5_takeOperand 129 = .ok (.aload_n 0, 1) := by decide +kernel
theorem dX5_takeOperand_130 : decode cX5_takeOperand 130 = .ok (.getfield 9, 3) := by decide +kernel
theorem dX5_takeOperand_133 : decode cX5_takeOperand 133 = .ok (.ldc 105, 2) := by decide +kernel
theorem dX5_takeOperand_135 : decode cX5_takeOperand 135 = .ok (.invokevirtual 21, 3) := by decide +kernel
theorem dX5_takeOperand_138 : decode cX5_takeOperand 138 = .ok (.ifCond .eq 9, 3) := by decide +kernel
theorem dX5_takeOperand_141 : decode cX5_takeOperand 141 = .ok (.bipush (-91), 2) := by decide +kernel
theorem dX5_takeOperand_143 : decode cX5_takeOperand 143 = .ok (.istore_n 1, 1) := by decide +kernel
theorem dX5_takeOperand_144 : decode cX5_takeOperand 144 = .ok (.goto 45, 3) := by decide +kernel
theorem dX5_takeOperand_147 : decode cX5_takeOperand 147 = .ok (.aload_n 0, 1) := by decide +kernel
theorem dX5_takeOperand_148 : decode cX5_takeOperand 148 = .ok (.getfield 9, 3) := by decide +kernel
theorem dX5_takeOperand_151 : decode cX5_takeOperand 151 = .ok (.ldc 107, 2) := by decide +kernel
theorem dX5_takeOperand_153 : decode cX5_takeOperand 153 = .ok (.invokevirtual 21, 3) := by decide +kernel
theorem dX5_takeOperand_156 : decode cX5_takeOperand 156 = .ok (.ifCond .eq 9, 3) := by decide +kernel
theorem dX5_takeOperand_159 : decode cX5_takeOperand 159 = .ok (.bipush (-90), 2) := by decide +kernel
theorem dX5_takeOperand_161 : decode cX5_takeOperand 161 = .ok (.istore_n 1, 1) := by decide +kernel
theorem dX5_takeOperand_162 : decode cX5_takeOperand 162 = .ok (.goto 27, 3) := by decide +kernel
theorem dX5_takeOperand_165 : decode cX5_takeOperand 165 = .ok (.aload_n 0, 1) := by decide +kernel
theorem dX5_takeOperand_166 : decode cX5_takeOperand 166 = .ok (.getfield 9, 3) := by decide +kernel
theorem dX5_takeOperand_169 : decode cX5_takeOperand 169 = .ok (.ldc 109, 2) := by decide +kernel
theorem dX5_takeOperand_171 : decode cX5_takeOperand 171 = .ok (.invokevirtual 21, 3) := by decide +kernel
theorem dX5_takeOperand_174 : decode cX5_takeOperand 174 = .ok (.ifCond .ne 15, 3) := by decide +kernel
theorem dX5_takeOperand_177 : decode cX5_takeOperand 177 = .ok (.aload_n 0, 1) := by decide +kernel
theorem dX5_takeOperand_178 : decode cX5_takeOperand 178 = .ok (.getfield 9, 3) := by decide +kernel
theorem dX5_takeOperand_181 : decode cX5_takeOperand 181 = .ok (.iconst 0, 1) := by decide +kernel
theorem dX5_takeOperand_182 : decode cX5_takeOperand 182 = .ok (.sipush 9999, 3) := by decide +kernel
theorem dX5_takeOperand_185 : decode cX5_takeOperand 185 = .ok (.invokevirtual 111, 3) := by decide +kernel
theorem dX5_takeOperand_188 : decode cX5_takeOperand 188 = .ok (.istore_n 1, 1) := by decide +kernel
theorem dX5_takeOperand_189 : decode cX5_takeOperand 189 = .ok (.aload_n 0, 1) := by decide +kernel
theorem dX5_takeOperand_190 : decode cX5_takeOperand 190 = .ok (.getfield 9, 3) := by decide +kernel
theorem dX5_takeOperand_193 : decode cX5_takeOperand 193 = .ok (.invokevirtual 33, 3) := by decide +kernel
theorem dX5_takeOperand_196 : decode cX5_takeOperand 196 = .ok (.iload_n 1, 1) := by decide +kernel
theorem dX5_takeOperand_197 : decode cX5_takeOperand 197 = .ok (.ireturn, 1) := by decide +kernel
theorem dX5_takeComparison_0 : decode cX5_takeComparison 0 = .ok (.aload_n 0, 1) := by decide +kernel
theorem dX5_takeComparison_1 : decode cX5_takeComparison 1 = .ok (.getfield 9, 3) := by decide +kernel
theorem dX5_takeComparison_4 : decode cX5_takeComparison 4 = .ok (.getfield 115, 3) := by decide +kernel
theorem dX5_takeComparison_7 : decode cX5_takeComparison 7 = .ok (.istore_n 1, 1) := by decide +kernel
theorem dX5_takeComparison_8 : decode cX5_takeComparison 8 = .ok (.aload_n 0, 1) := by decide +kernel
theorem dX5_takeComparison_9 : decode cX5_takeComparison 9 = .ok (.getfield 9, 3) := by decide +kernel
theorem dX5_takeComparison_12 : decode cX5_takeComparison 12 = .ok (.bipush 60, 2) := by decide +kernel
theorem dX5_takeComparison_14 : decode cX5_takeComparison 14 = .ok (.invokevirtual 73, 3) := by decide +kernel
theorem dX5_takeComparison_17 : decode cX5_takeComparison 17 = .ok (.ifCond .ne 35, 3) := by decide +kernel
theorem dX5_takeComparison_20 : decode cX5_takeComparison 20 = .ok (.aload_n 0, 1) := by decide +kernel
theorem dX5_takeComparison_21 : decode cX5_takeComparison 21 = .ok (.getfield 9, 3) := by decide +kernel
theorem dX5_takeComparison_24 : decode cX5_takeComparison 24 = .ok (.bipush 61, 2) := by decide +kernel
theorem dX5_takeComparison_26 : decode cX5_takeComparison 26 = .ok (.invokevirtual 73, 3) := by decide +kernel
theorem dX5_takeComparison_29 : decode cX5_takeComparison 29 = .ok (.ifCond .ne 23, 3) := by decide +kernel
theorem dX5_takeComparison_32 : decode cX5_takeComparison 32 = .ok (.aload_n 0, 1) := by decide +kernel
theorem dX5_takeComparison_33 : decode cX5_takeComparison 33 = .ok (.getfield 9, 3) := by decide +kernel
theorem dX5_takeComparison_36 : decode cX5_takeComparison 36 = .ok (.bipush 62, 2) := by decide +kernel
theorem dX5_takeComparison_38 : decode cX5_takeComparison 38 = .ok (.invokevirtual 73, 3) := by decide +kernel
theorem dX5_takeComparison_41 : decode cX5_takeComparison 41 = .ok (.ifCond .ne 11, 3) := by decide +kernel
theorem dX5_takeComparison_44 : decode cX5_takeComparison 44 = .ok (.aload_n 0, 1) := by decide +kernel
theorem dX5_takeComparison_45 : decode cX5_takeComparison 45 = .ok (.getfield 9, 3) := by decide +kernel
theorem dX5_takeComparison_48 : decode cX5_takeComparison 48 = .ok (.iconst 1, 1) := by decide +kernel
theorem dX5_takeComparison_49 : decode cX5_takeComparison 49 = .ok (.invokevirtual 29, 3) := by decide +kernel
theorem dX5_takeComparison_52 : decode cX5_takeComparison 52 = .ok (.aload_n 0, 1) := by decide +kernel
theorem dX5_takeComparison_53 : decode cX5_takeComparison 53 = .ok (.getfield 9, 3) := by decide +kernel
theorem dX5_takeComparison_56 : decode cX5_takeComparison 56 = .ok (.invokevirtual 33, 3) := by decide +kernel
theorem dX5_takeComparison_59 : decode cX5_takeComparison 59 = .ok (.iload_n 1, 1) := by decide +kernel
theorem dX5_takeComparison_60 : decode cX5_takeComparison 60 = .ok (.ireturn, 1) := by decide +kernel
theorem dX5_compare_0 : decode cX5_compare 0 = .ok (.iconst 0, 1) := by decide +kernel
theorem dX5_compare_1 : decode cX5_compare 1 = .ok (.istore 4, 2) := by decide +kernel
theorem dX5_compare_3 : decode cX5_compare 3 = .ok (.iconst 0, 1) := by decide +kernel
theorem dX5_compare_4 : decode cX5_compare 4 = .ok (.istore 5, 2) := by decide +kernel
theorem dX5_compare_6 : decode cX5_compare 6 = .ok (.iload 5, 2) := by decide +kernel
theorem dX5_compare_8 : decode cX5_compare 8 = .ok (.aload_n 0, 1) := by decide +kernel
theorem dX5_compare_9 : decode cX5_compare 9 = .ok (.getfield 15, 3) := by decide +kernel
theorem dX5_compare_12 : decode cX5_compare 12 = .ok (.getfield 52, 3) := by decide +kernel
theorem dX5_compare_15 : decode cX5_compare 15 = .ok (.if_icmp .ge 68, 3) := by decide +kernel
theorem dX5_compare_18 : decode cX5_compare 18 = .ok (.aload_n 0, 1) := by decide +kernel
theorem dX5_compare_19 : decode cX5_compare 19 = .ok (.iload_n 1, 1) := by decide +kernel
theorem dX5_compare_20 : decode cX5_compare 20 = .ok (.iload 5, 2) := by decide +kernel
theorem dX5_compare_22 : decode cX5_compare 22 = .ok (.invokevirtual 118, 3) := by decide +kernel
theorem dX5_compare_25 : decode cX5_compare 25 = .ok (.aload_n 0, 1) := by decide +kernel
theorem dX5_compare_26 : decode cX5_compare 26 = .ok (.iload_n 3, 1) := by decide +kernel
theorem dX5_compare_27 : decode cX5_compare 27 = .ok (.iload 5, 2) := by decide +kernel
theorem dX5_compare_29 : decode cX5_compare 29 = .ok (.invokevirtual 118, 3) := by decide +kernel
theorem dX5_compare_32 : decode cX5_compare 32 = .ok (.isub, 1) := by decide +kernel
theorem dX5_compare_33 : decode cX5_compare 33 = .ok (.istore 6, 2) := by decide +kernel
theorem dX5_compare_35 : decode cX5_compare 35 = .ok (.iload_n 2, 1) := by decide +kernel
theorem dX5_compare_36 : decode cX5_compare 36 = .ok (.bipush 60, 2) := by decide +kernel
theorem dX5_compare_38 : decode cX5_compare 38 = .ok (.if_icmp .ne 11, 3) := by decide +kernel
theorem dX5_compare_41 : decode cX5_compare 41 = .ok (.iload 6, 2) := by decide +kernel
theorem dX5_compare_43 : decode cX5_compare 43 = .ok (.ifCond .ge 34, 3) := by decide +kernel
theorem dX5_compare_46 : decode cX5_compare 46 = .ok (.goto 22, 3) := by decide +kernel
theorem dX5_compare_49 : decode cX5_compare 49 = .ok (.iload_n 2, 1) := by decide +kernel
theorem dX5_compare_50 : decode cX5_compare 50 = .ok (.bipush 62, 2) := by decide +kernel
theorem dX5_compare_52 : decode cX5_compare 52 = .ok (.if_icmp .ne 11, 3) := by decide +kernel
theorem dX5_compare_55 : decode cX5_compare 55 = .ok (.iload 6, 2) := by decide +kernel
theorem dX5_compare_57 : decode cX5_compare 57 = .ok (.ifCond .le 20, 3) := by decide +kernel
theorem dX5_compare_60 : decode cX5_compare 60 = .ok (.goto 8, 3) := by decide +kernel
theorem dX5_compare_63 : decode cX5_compare 63 = .ok (.iload 6, 2) := by decide +kernel
theorem dX5_compare_65 : decode cX5_compare 65 = .ok (.ifCond .ne 12, 3) := by decide +kernel
theorem dX5_compare_68 : decode cX5_compare 68 = .ok (.iload 4, 2) := by decide +kernel
theorem dX5_compare_70 : decode cX5_compare 70 = .ok (.iconst 1, 1) := by decide +kernel
theorem dX5_compare_71 : decode cX5_compare 71 = .ok (.iload 5, 2) := by decide +kernel
theorem dX5_compare_73 : decode cX5_compare 73 = .ok (.ishl, 1) := by decide +kernel
theorem dX5_compare_74 : decode cX5_compare 74 = .ok (.ior, 1) := by decide +kernel
theorem dX5_compare_75 : decode cX5_compare 75 = .ok (.istore 4, 2) := by decide +kernel
theorem dX5_compare_77 : decode cX5_compare 77 = .ok (.iinc 5 1, 3) := by decide +kernel
theorem dX5_compare_80 : decode cX5_compare 80 = .ok (.goto (-74), 3) := by decide +kernel
theorem dX5_compare_83 : decode cX5_compare 83 = .ok (.iload 4, 2) := by decide +kernel
theorem dX5_compare_85 : decode cX5_compare 85 = .ok (.ireturn, 1) := by decide +kernel
theorem dX5_operandOf_0 : decode cX5_operandOf 0 = .ok (.iload_n 1, 1) := by decide +kernel
theorem dX5_operandOf_1 : decode cX5_operandOf 1 = .ok (.ifCond .lt 5, 3) := by decide +kernel
theorem dX5_operandOf_4 : decode cX5_operandOf 4 = .ok (.iload_n 1, 1) := by decide +kernel
theorem dX5_operandOf_5 : decode cX5_operandOf 5 = .ok (.ireturn, 1) := by decide +kernel
theorem dX5_operandOf_6 : decode cX5_operandOf 6 = .ok (.iload_n 1, 1) := by decide +kernel
theorem dX5_operandOf_7 : decode cX5_operandOf 7 = .ok (.bipush (-100), 2) := by decide +kernel
theorem dX5_operandOf_9 : decode cX5_operandOf 9 = .ok (.isub, 1) := by decide +kernel
theorem dX5_operandOf_10 : decode cX5_operandOf 10 = .ok (.istore_n 3, 1) := by decide +kernel
theorem dX5_operandOf_11 : decode cX5_operandOf 11 = .ok (.iload_n 3, 1) := by decide +kernel
theorem dX5_operandOf_12 : decode cX5_operandOf 12 = .ok (.bipush 11, 2) := by decide +kernel
theorem dX5_operandOf_14 : decode cX5_operandOf 14 = .ok (.if_icmp .ne 5, 3) := by decide +kernel
theorem dX5_operandOf_17 : decode cX5_operandOf 17 = .ok (.iload_n 2, 1) := by decide +kernel
theorem dX5_operandOf_18 : decode cX5_operandOf 18 = .ok (.ireturn, 1) := by decide +kernel
theorem dX5_operandOf_19 : decode cX5_operandOf 19 = .ok (.iload_n 3, 1) := by decide +kernel
theorem dX5_operandOf_20 : decode cX5_operandOf 20 = .ok (.bipush 12, 2) := by decide +kernel
theorem dX5_operandOf_22 : decode cX5_operandOf 22 = .ok (.if_icmp .ne 24, 3) := by decide +kernel
theorem dX5_operandOf_25 : decode cX5_operandOf 25 = .ok (.aload_n 0, 1) := by decide +kernel
theorem dX5_operandOf_26 : decode cX5_operandOf 26 = .ok (.getfield 15, 3) := by decide +kernel
theorem dX5_operandOf_29 : decode cX5_operandOf 29 = .ok (.getfield 121, 3) := by decide +kernel
theorem dX5_operandOf_32 : decode cX5_operandOf 32 = .ok (.aload_n 0, 1) := by decide +kernel
theorem dX5_operandOf_33 : decode cX5_operandOf 33 = .ok (.getfield 15, 3) := by decide +kernel
theorem dX5_operandOf_36 : decode cX5_operandOf 36 = .ok (.iload_n 2, 1) := by decide +kernel
theorem dX5_operandOf_37 : decode cX5_operandOf 37 = .ok (.invokevirtual 125, 3) := by decide +kernel
theorem dX5_operandOf_40 : decode cX5_operandOf 40 = .ok (.invokevirtual 128, 3) := by decide +kernel
theorem dX5_operandOf_43 : decode cX5_operandOf 43 = .ok (.goto 15, 3) := by decide +kernel
theorem dX5_operandOf_46 : decode cX5_operandOf 46 = .ok (.aload_n 0, 1) := by decide +kernel
theorem dX5_operandOf_47 : decode cX5_operandOf 47 = .ok (.getfield 15, 3) := by decide +kernel
theorem dX5_operandOf_50 : decode cX5_operandOf 50 = .ok (.getfield 133, 3) := by decide +kernel
theorem dX5_operandOf_53 : decode cX5_operandOf 53 = .ok (.iload_n 2, 1) := by decide +kernel
theorem dX5_operandOf_54 : decode cX5_operandOf 54 = .ok (.iload_n 3, 1) := by decide +kernel
theorem dX5_operandOf_55 : decode cX5_operandOf 55 = .ok (.invokevirtual 137, 3) := by decide +kernel
theorem dX5_operandOf_58 : decode cX5_operandOf 58 = .ok (.ireturn, 1) := by decide +kernel
theorem dX6_init_0 : decode cX6_init 0 = .ok (.aload_n 0, 1) := by decide +kernel
theorem dX6_init_1 : decode cX6_init 1 = .ok (.invokespecial 1, 3) := by decide +kernel
theorem dX6_init_4 : decode cX6_init 4 = .ok (.aload_n 0, 1) := by decide +kernel
theorem dX6_init_5 : decode cX6_init 5 = .ok (.iload_n 1, 1) := by decide +kernel
theorem dX6_init_6 : decode cX6_init 6 = .ok (.iconst 0, 1) := by decide +kernel
theorem dX6_init_7 : decode cX6_init 7 = .ok (.invokestatic 7, 3) := by decide +kernel
theorem dX6_init_10 : decode cX6_init 10 = .ok (.newarray .int, 2) := by decide +kernel
theorem dX6_init_12 : decode cX6_init 12 = .ok (.putfield 13, 3) := by decide +kernel
theorem dX6_init_15 : decode cX6_init 15 = .ok (.aload_n 0, 1) := by decide +kernel
theorem dX6_init_16 : decode cX6_init 16 = .ok (.iload_n 2, 1) := by decide +kernel
theorem dX6_init_17 : decode cX6_init 17 = .ok (.putfield 19, 3) := by decide +kernel
theorem dX6_init_20 : decode cX6_init 20 = .ok (.return_, 1) := by decide +kernel
theorem dX6_get_0 : decode cX6_get 0 = .ok (.iload_n 1, 1) := by decide +kernel
theorem dX6_get_1 : decode cX6_get 1 = .ok (.ifCond .lt 21, 3) := by decide +kernel
theorem dX6_get_4 : decode cX6_get 4 = .ok (.iload_n 1, 1) := by decide +kernel
theorem dX6_get_5 : decode cX6_get 5 = .ok (.aload_n 0, 1) := by decide +kernel
theorem dX6_get_6 : decode cX6_get 6 = .ok (.getfield 13, 3) := by decide +kernel
theorem dX6_get_9 : decode cX6_get 9 = .ok (.arraylength, 1) := by decide +kernel
theorem dX6_get_10 : decode cX6_get 10 = .ok (.if_icmp .ge 12, 3) := by decide +kernel
theorem dX6_get_13 : decode cX6_get 13 = .ok (.aload_n 0, 1) := by decide +kernel
theorem dX6_get_14 : decode cX6_get 14 = .ok (.getfield 13, 3) := by decide +kernel
theorem dX6_get_17 : decode cX6_get 17 = .ok (.iload_n 1, 1) := by decide +kernel
theorem dX6_get_18 : decode cX6_get 18 = .ok (.iaload, 1) := by decide +kernel
theorem dX6_get_19 : decode cX6_get 19 = .ok (.goto 7, 3) := by decide +kernel
theorem dX6_get_22 : decode cX6_get 22 = .ok (.aload_n 0, 1) := by decide +kernel
theorem dX6_get_23 : decode cX6_get 23 = .ok (.getfield 19, 3) := by decide +kernel
theorem dX6_get_26 : decode cX6_get 26 = .ok (.ireturn, 1) := by decide +kernel
theorem dX6_put_0 : decode cX6_put 0 = .ok (.iload_n 1, 1) := by decide +kernel
theorem dX6_put_1 : decode cX6_put 1 = .ok (.ifCond .lt 19, 3) := by decide +kernel
theorem dX6_put_4 : decode cX6_put 4 = .ok (.iload_n 1, 1) := by decide +kernel
theorem dX6_put_5 : decode cX6_put 5 = .ok (.aload_n 0, 1) := by decide +kernel
theorem dX6_put_6 : decode cX6_put 6 = .ok (.getfield 13, 3) := by decide +kernel
theorem dX6_put_9 : decode cX6_put 9 = .ok (.arraylength, 1) := by decide +kernel
theorem dX6_put_10 : decode cX6_put 10 = .ok (.if_icmp .ge 10, 3) := by decide +kernel
theorem dX6_put_13 : decode cX6_put 13 = .ok (.aload_n 0, 1) := by decide +kernel
theorem dX6_put_14 : decode cX6_put 14 = .ok (.getfield 13, 3) := by decide +kernel
theorem dX6_put_17 : decode cX6_put 17 = .ok (.iload_n 1, 1) := by decide +kernel
theorem dX6_put_18 : decode cX6_put 18 = .ok (.iload_n 2, 1) := by decide +kernel
theorem dX6_put_19 : decode cX6_put 19 = .ok (.iastore, 1) := by decide +kernel
theorem dX6_put_20 : decode cX6_put 20 = .ok (.return_, 1) := by decide +kernel
theorem dX6_fill_0 : decode cX6_fill 0 = .ok (.iconst 0, 1) := by decide +kernel
theorem dX6_fill_1 : decode cX6_fill 1 = .ok (.istore_n 2, 1) := by decide +kernel
theorem dX6_fill_2 : decode cX6_fill 2 = .ok (.iload_n 2, 1) := by decide +kernel
theorem dX6_fill_3 : decode cX6_fill 3 = .ok (.aload_n 0, 1) := by decide +kernel
theorem dX6_fill_4 : decode cX6_fill 4 = .ok (.getfield 13, 3) := by decide +kernel
theorem dX6_fill_7 : decode cX6_fill 7 = .ok (.arraylength, 1) := by decide +kernel
theorem dX6_fill_8 : decode cX6_fill 8 = .ok (.if_icmp .ge 16, 3) := by decide +kernel
theorem dX6_fill_11 : decode cX6_fill 11 = .ok (.aload_n 0, 1) := by decide +kernel
theorem dX6_fill_12 : decode cX6_fill 12 = .ok (.getfield 13, 3) := by decide +kernel
theorem dX6_fill_15 : decode cX6_fill 15 = .ok (.iload_n 2, 1) := by decide +kernel
theorem dX6_fill_16 : decode cX6_fill 16 = .ok (.iload_n 1, 1) := by decide +kernel
theorem dX6_fill_17 : decode cX6_fill 17 = .ok (.iastore, 1) := by decide +kernel
theorem dX6_fill_18 : decode cX6_fill 18 = .ok (.iinc 2 1, 3) := by decide +kernel
theorem dX6_fill_21 : decode cX6_fill 21 = .ok (.goto (-19), 3) := by decide +kernel
theorem dX6_fill_24 : decode cX6_fill 24 = .ok (.return_, 1) := by decide +kernel
theorem dX6_copyFrom_0 : decode cX6_copyFrom 0 = .ok (.aload_n 1, 1) := by decide +kernel
theorem dX6_copyFrom_1 : decode cX6_copyFrom 1 = .ok (.getfield 13, 3) := by decide +kernel
theorem dX6_copyFrom_4 : decode cX6_copyFrom 4 = .ok (.iconst 0, 1) := by decide +kernel
theorem dX6_copyFrom_5 : decode cX6_copyFrom 5 = .ok (.aload_n 0, 1) := by decide +kernel
theorem dX6_copyFrom_6 : decode cX6_copyFrom 6 = .ok (.getfield 13, 3) := by decide +kernel
theorem dX6_copyFrom_9 : decode cX6_copyFrom 9 = .ok (.iconst 0, 1) := by decide +kernel
theorem dX6_copyFrom_10 : decode cX6_copyFrom 10 = .ok (.aload_n 1, 1) := by decide +kernel
theorem dX6_copyFrom_11 : decode cX6_copyFrom 11 = .ok (.getfield 13, 3) := by decide +kernel
theorem dX6_copyFrom_14 : decode cX6_copyFrom 14 = .ok (.arraylength, 1) := by decide +kernel
theorem dX6_copyFrom_15 : decode cX6_copyFrom 15 = .ok (.aload_n 0, 1) := by decide +kernel
theorem dX6_copyFrom_16 : decode cX6_copyFrom 16 = .ok (.getfield 13, 3) := by decide +kernel
theorem dX6_copyFrom_19 : decode cX6_copyFrom 19 = .ok (.arraylength, 1) := by decide +kernel
theorem dX6_copyFrom_20 : decode cX6_copyFrom 20 = .ok (.invokestatic 23, 3) := by decide +kernel
theorem dX6_copyFrom_23 : decode cX6_copyFrom 23 = .ok (.invokestatic 26, 3) := by decide +kernel
theorem dX6_copyFrom_26 : decode cX6_copyFrom 26 = .ok (.return_, 1) := by decide +kernel
