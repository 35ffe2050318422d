theorem dX0_isForm_0 : decode cX0_isForm 0 = .ok (.iload_n 0, 1) := by decide +kernel
theorem dX0_isForm_1 : decode cX0_isForm 1 = .ok (.ifCond .lt 24, 3) := by decide +kernel
theorem dX0_isForm_4 : decode cX0_isForm 4 = .ok (.iload_n 0, 1) := by decide +kernel
theorem dX0_isForm_5 : decode cX0_isForm 5 = .ok (.iconst 5, 1) := by decide +kernel
theorem dX0_isForm_6 : decode cX0_isForm 6 = .ok (.if_icmp .gt 19, 3) := by decide +kernel
theorem dX0_isForm_9 : decode cX0_isForm 9 = .ok (.iload_n 0, 1) := by decide +kernel
theorem dX0_isForm_10 : decode cX0_isForm 10 = .ok (.iconst 3, 1) := by decide +kernel
theorem dX0_isForm_11 : decode cX0_isForm 11 = .ok (.if_icmp .ne 10, 3) := by decide +kernel
theorem dX0_isForm_14 : decode cX0_isForm 14 = .ok (.iload_n 1, 1) := by decide +kernel
theorem dX0_isForm_15 : decode cX0_isForm 15 = .ok (.invokestatic 9, 3) := by decide +kernel
theorem dX0_isForm_18 : decode cX0_isForm 18 = .ok (.ifCond .eq 7, 3) := by decide +kernel
theorem dX0_isForm_21 : decode cX0_isForm 21 = .ok (.iconst 1, 1) := by decide +kernel
theorem dX0_isForm_22 : decode cX0_isForm 22 = .ok (.goto 4, 3) := by decide +kernel
theorem dX0_isForm_25 : decode cX0_isForm 25 = .ok (.iconst 0, 1) := by decide +kernel
theorem dX0_isForm_26 : decode cX0_isForm 26 = .ok (.ireturn, 1) := by decide +kernel
theorem dX0_isBlockSide_0 : decode cX0_isBlockSide 0 = .ok (.iload_n 0, 1) := by decide +kernel
theorem dX0_isBlockSide_1 : decode cX0_isBlockSide 1 = .ok (.iconst 1, 1) := by decide +kernel
theorem dX0_isBlockSide_2 : decode cX0_isBlockSide 2 = .ok (.if_icmp .lt 12, 3) := by decide +kernel
theorem dX0_isBlockSide_5 : decode cX0_isBlockSide 5 = .ok (.iload_n 0, 1) := by decide +kernel
theorem dX0_isBlockSide_6 : decode cX0_isBlockSide 6 = .ok (.iconst 4, 1) := by decide +kernel
theorem dX0_isBlockSide_7 : decode cX0_isBlockSide 7 = .ok (.if_icmp .gt 7, 3) := by decide +kernel
theorem dX0_isBlockSide_10 : decode cX0_isBlockSide 10 = .ok (.iconst 1, 1) := by decide +kernel
theorem dX0_isBlockSide_11 : decode cX0_isBlockSide 11 = .ok (.goto 4, 3) := by decide +kernel
theorem dX0_isBlockSide_14 : decode cX0_isBlockSide 14 = .ok (.iconst 0, 1) := by decide +kernel
theorem dX0_isBlockSide_15 : decode cX0_isBlockSide 15 = .ok (.ireturn, 1) := by decide +kernel
theorem dX0_cellCount_0 : decode cX0_cellCount 0 = .ok (.aload_n 0, 1) := by decide +kernel
theorem dX0_cellCount_1 : decode cX0_cellCount 1 = .ok (.invokevirtual 15, 3) := by decide +kernel
theorem dX0_cellCount_4 : decode cX0_cellCount 4 = .ok (.istore 4, 2) := by decide +kernel
theorem dX0_cellCount_6 : decode cX0_cellCount 6 = .ok (.iload_n 1, 1) := by decide +kernel
theorem dX0_cellCount_7 : decode cX0_cellCount 7 = .ok (.tableswitch 108 0 5 #[37, 42, 54, 66, 86, 96], 37) := by decide +kernel
theorem dX0_cellCount_44 : decode cX0_cellCount 44 = .ok (.iconst 3, 1) := by decide +kernel
theorem dX0_cellCount_45 : decode cX0_cellCount 45 = .ok (.iload 4, 2) := by decide +kernel
theorem dX0_cellCount_47 : decode cX0_cellCount 47 = .ok (.imul, 1) := by decide +kernel
theorem dX0_cellCount_48 : decode cX0_cellCount 48 = .ok (.ireturn, 1) := by decide +kernel
theorem dX0_cellCount_49 : decode cX0_cellCount 49 = .ok (.aload_n 0, 1) := by decide +kernel
theorem dX0_cellCount_50 : decode cX0_cellCount 50 = .ok (.getfield 21, 3) := by decide +kernel
theorem dX0_cellCount_53 : decode cX0_cellCount 53 = .ok (.iconst 1, 1) := by decide +kernel
theorem dX0_cellCount_54 : decode cX0_cellCount 54 = .ok (.iadd, 1) := by decide +kernel
theorem dX0_cellCount_55 : decode cX0_cellCount 55 = .ok (.iconst 2, 1) := by decide +kernel
theorem dX0_cellCount_56 : decode cX0_cellCount 56 = .ok (.iload 4, 2) := by decide +kernel
theorem dX0_cellCount_58 : decode cX0_cellCount 58 = .ok (.imul, 1) := by decide +kernel
theorem dX0_cellCount_59 : decode cX0_cellCount 59 = .ok (.iadd, 1) := by decide +kernel
theorem dX0_cellCount_60 : decode cX0_cellCount 60 = .ok (.ireturn, 1) := by decide +kernel
theorem dX0_cellCount_61 : decode cX0_cellCount 61 = .ok (.aload_n 0, 1) := by decide +kernel
theorem dX0_cellCount_62 : decode cX0_cellCount 62 = .ok (.getfield 25, 3) := by decide +kernel
theorem dX0_cellCount_65 : decode cX0_cellCount 65 = .ok (.iconst 1, 1) := by decide +kernel
theorem dX0_cellCount_66 : decode cX0_cellCount 66 = .ok (.iadd, 1) := by decide +kernel
theorem dX0_cellCount_67 : decode cX0_cellCount 67 = .ok (.iconst 2, 1) := by decide +kernel
theorem dX0_cellCount_68 : decode cX0_cellCount 68 = .ok (.iload 4, 2) := by decide +kernel
theorem dX0_cellCount_70 : decode cX0_cellCount 70 = .ok (.imul, 1) := by decide +kernel
theorem dX0_cellCount_71 : decode cX0_cellCount 71 = .ok (.iadd, 1) := by decide +kernel
theorem dX0_cellCount_72 : decode cX0_cellCount 72 = .ok (.ireturn, 1) := by decide +kernel
theorem dX0_cellCount_73 : decode cX0_cellCount 73 = .ok (.aload_n 3, 1) := by decide +kernel
theorem dX0_cellCount_74 : decode cX0_cellCount 74 = .ok (.aload_n 0, 1) := by decide +kernel
theorem dX0_cellCount_75 : decode cX0_cellCount 75 = .ok (.iload_n 2, 1) := by decide +kernel
theorem dX0_cellCount_76 : decode cX0_cellCount 76 = .ok (.invokevirtual 28, 3) := by decide +kernel
theorem dX0_cellCount_79 : decode cX0_cellCount 79 = .ok (.aload_n 3, 1) := by decide +kernel
theorem dX0_cellCount_80 : decode cX0_cellCount 80 = .ok (.invokestatic 32, 3) := by decide +kernel
theorem dX0_cellCount_83 : decode cX0_cellCount 83 = .ok (.aload_n 3, 1) := by decide +kernel
theorem dX0_cellCount_84 : decode cX0_cellCount 84 = .ok (.invokevirtual 15, 3) := by decide +kernel
theorem dX0_cellCount_87 : decode cX0_cellCount 87 = .ok (.iload_n 2, 1) := by decide +kernel
theorem dX0_cellCount_88 : decode cX0_cellCount 88 = .ok (.imul, 1) := by decide +kernel
theorem dX0_cellCount_89 : decode cX0_cellCount 89 = .ok (.iload_n 2, 1) := by decide +kernel
theorem dX0_cellCount_90 : decode cX0_cellCount 90 = .ok (.imul, 1) := by decide +kernel
theorem dX0_cellCount_91 : decode cX0_cellCount 91 = .ok (.iadd, 1) := by decide +kernel
theorem dX0_cellCount_92 : decode cX0_cellCount 92 = .ok (.ireturn, 1) := by decide +kernel
theorem dX0_cellCount_93 : decode cX0_cellCount 93 = .ok (.aload_n 0, 1) := by decide +kernel
theorem dX0_cellCount_94 : decode cX0_cellCount 94 = .ok (.getfield 21, 3) := by decide +kernel
theorem dX0_cellCount_97 : decode cX0_cellCount 97 = .ok (.aload_n 0, 1) := by decide +kernel
theorem dX0_cellCount_98 : decode cX0_cellCount 98 = .ok (.getfield 25, 3) := by decide +kernel
theorem dX0_cellCount_101 : decode cX0_cellCount 101 = .ok (.imul, 1) := by decide +kernel
theorem dX0_cellCount_102 : decode cX0_cellCount 102 = .ok (.ireturn, 1) := by decide +kernel
theorem dX0_cellCount_103 : decode cX0_cellCount 103 = .ok (.aload_n 0, 1) := by decide +kernel
theorem dX0_cellCount_104 : decode cX0_cellCount 104 = .ok (.invokestatic 36, 3) := by decide +kernel
theorem dX0_cellCount_107 : decode cX0_cellCount 107 = .ok (.aload_n 0, 1) := by decide +kernel
theorem dX0_cellCount_108 : decode cX0_cellCount 108 = .ok (.getfield 21, 3) := by decide +kernel
theorem dX0_cellCount_111 : decode cX0_cellCount 111 = .ok (.iconst 1, 1) := by decide +kernel
theorem dX0_cellCount_112 : decode cX0_cellCount 112 = .ok (.iadd, 1) := by decide +kernel
theorem dX0_cellCount_113 : decode cX0_cellCount 113 = .ok (.imul, 1) := by decide +kernel
theorem dX0_cellCount_114 : decode cX0_cellCount 114 = .ok (.ireturn, 1) := by decide +kernel
theorem dX0_cellCount_115 : decode cX0_cellCount 115 = .ok (.iconst 0, 1) := by decide +kernel
theorem dX0_cellCount_116 : decode cX0_cellCount 116 = .ok (.ireturn, 1) := by decide +kernel
theorem dX0_cellValue_0 : decode cX0_cellValue 0 = .ok (.iload_n 1, 1) := by decide +kernel
theorem dX0_cellValue_1 : decode cX0_cellValue 1 = .ok (.tableswitch 92 0 5 #[39, 45, 51, 64, 80, 86], 39) := by decide +kernel
theorem dX0_cellValue_40 : decode cX0_cellValue 40 = .ok (.aload_n 0, 1) := by decide +kernel
theorem dX0_cellValue_41 : decode cX0_cellValue 41 = .ok (.iload_n 3, 1) := by decide +kernel
theorem dX0_cellValue_42 : decode cX0_cellValue 42 = .ok (.invokestatic 39, 3) := by decide +kernel
theorem dX0_cellValue_45 : decode cX0_cellValue 45 = .ok (.lreturn, 1) := by decide +kernel
theorem dX0_cellValue_46 : decode cX0_cellValue 46 = .ok (.aload_n 0, 1) := by decide +kernel
theorem dX0_cellValue_47 : decode cX0_cellValue 47 = .ok (.iload_n 3, 1) := by decide +kernel
theorem dX0_cellValue_48 : decode cX0_cellValue 48 = .ok (.invokestatic 43, 3) := by decide +kernel
theorem dX0_cellValue_51 : decode cX0_cellValue 51 = .ok (.lreturn, 1) := by decide +kernel
theorem dX0_cellValue_52 : decode cX0_cellValue 52 = .ok (.aload 4, 2) := by decide +kernel
theorem dX0_cellValue_54 : decode cX0_cellValue 54 = .ok (.aload_n 0, 1) := by decide +kernel
theorem dX0_cellValue_55 : decode cX0_cellValue 55 = .ok (.invokevirtual 46, 3) := by decide +kernel
theorem dX0_cellValue_58 : decode cX0_cellValue 58 = .ok (.aload 4, 2) := by decide +kernel
theorem dX0_cellValue_60 : decode cX0_cellValue 60 = .ok (.iload_n 3, 1) := by decide +kernel
theorem dX0_cellValue_61 : decode cX0_cellValue 61 = .ok (.invokestatic 43, 3) := by decide +kernel
theorem dX0_cellValue_64 : decode cX0_cellValue 64 = .ok (.lreturn, 1) := by decide +kernel
theorem dX0_cellValue_65 : decode cX0_cellValue 65 = .ok (.aload 4, 2) := by decide +kernel
theorem dX0_cellValue_67 : decode cX0_cellValue 67 = .ok (.aload_n 0, 1) := by decide +kernel
theorem dX0_cellValue_68 : decode cX0_cellValue 68 = .ok (.iload_n 2, 1) := by decide +kernel
theorem dX0_cellValue_69 : decode cX0_cellValue 69 = .ok (.invokevirtual 28, 3) := by decide +kernel
theorem dX0_cellValue_72 : decode cX0_cellValue 72 = .ok (.aload_n 0, 1) := by decide +kernel
theorem dX0_cellValue_73 : decode cX0_cellValue 73 = .ok (.aload 4, 2) := by decide +kernel
theorem dX0_cellValue_75 : decode cX0_cellValue 75 = .ok (.iload_n 2, 1) := by decide +kernel
theorem dX0_cellValue_76 : decode cX0_cellValue 76 = .ok (.iload_n 3, 1) := by decide +kernel
theorem dX0_cellValue_77 : decode cX0_cellValue 77 = .ok (.invokestatic 50, 3) := by decide +kernel
theorem dX0_cellValue_80 : decode cX0_cellValue 80 = .ok (.lreturn, 1) := by decide +kernel
theorem dX0_cellValue_81 : decode cX0_cellValue 81 = .ok (.aload_n 0, 1) := by decide +kernel
theorem dX0_cellValue_82 : decode cX0_cellValue 82 = .ok (.iload_n 3, 1) := by decide +kernel
theorem dX0_cellValue_83 : decode cX0_cellValue 83 = .ok (.invokestatic 54, 3) := by decide +kernel
theorem dX0_cellValue_86 : decode cX0_cellValue 86 = .ok (.lreturn, 1) := by decide +kernel
theorem dX0_cellValue_87 : decode cX0_cellValue 87 = .ok (.aload_n 0, 1) := by decide +kernel
theorem dX0_cellValue_88 : decode cX0_cellValue 88 = .ok (.iload_n 3, 1) := by decide +kernel
theorem dX0_cellValue_89 : decode cX0_cellValue 89 = .ok (.invokestatic 57, 3) := by decide +kernel
theorem dX0_cellValue_92 : decode cX0_cellValue 92 = .ok (.lreturn, 1) := by decide +kernel
theorem dX0_cellValue_93 : decode cX0_cellValue 93 = .ok (.lconst 0, 1) := by decide +kernel
theorem dX0_cellValue_94 : decode cX0_cellValue 94 = .ok (.lreturn, 1) := by decide +kernel
theorem dX0_triplesCell_0 : decode cX0_triplesCell 0 = .ok (.aload_n 0, 1) := by decide +kernel
theorem dX0_triplesCell_1 : decode cX0_triplesCell 1 = .ok (.iload_n 1, 1) := by decide +kernel
theorem dX0_triplesCell_2 : decode cX0_triplesCell 2 = .ok (.iconst 3, 1) := by decide +kernel
theorem dX0_triplesCell_3 : decode cX0_triplesCell 3 = .ok (.idiv, 1) := by decide +kernel
theorem dX0_triplesCell_4 : decode cX0_triplesCell 4 = .ok (.invokevirtual 60, 3) := by decide +kernel
theorem dX0_triplesCell_7 : decode cX0_triplesCell 7 = .ok (.istore_n 2, 1) := by decide +kernel
theorem dX0_triplesCell_8 : decode cX0_triplesCell 8 = .ok (.iload_n 1, 1) := by decide +kernel
theorem dX0_triplesCell_9 : decode cX0_triplesCell 9 = .ok (.iconst 3, 1) := by decide +kernel
theorem dX0_triplesCell_10 : decode cX0_triplesCell 10 = .ok (.irem, 1) := by decide +kernel
theorem dX0_triplesCell_11 : decode cX0_triplesCell 11 = .ok (.lookupswitch 37 #[(0, 25), (1, 31)], 25) := by decide +kernel
theorem dX0_triplesCell_36 : decode cX0_triplesCell 36 = .ok (.iload_n 2, 1) := by decide +kernel
theorem dX0_triplesCell_37 : decode cX0_triplesCell 37 = .ok (.bipush 16, 2) := by decide +kernel
theorem dX0_triplesCell_39 : decode cX0_triplesCell 39 = .ok (.idiv, 1) := by decide +kernel
theorem dX0_triplesCell_40 : decode cX0_triplesCell 40 = .ok (.i2l, 1) := by decide +kernel
theorem dX0_triplesCell_41 : decode cX0_triplesCell 41 = .ok (.lreturn, 1) := by decide +kernel
theorem dX0_triplesCell_42 : decode cX0_triplesCell 42 = .ok (.iload_n 2, 1) := by decide +kernel
theorem dX0_triplesCell_43 : decode cX0_triplesCell 43 = .ok (.bipush 16, 2) := by decide +kernel
theorem dX0_triplesCell_45 : decode cX0_triplesCell 45 = .ok (.irem, 1) := by decide +kernel
theorem dX0_triplesCell_46 : decode cX0_triplesCell 46 = .ok (.i2l, 1) := by decide +kernel
theorem dX0_triplesCell_47 : decode cX0_triplesCell 47 = .ok (.lreturn, 1) := by decide +kernel
theorem dX0_triplesCell_48 : decode cX0_triplesCell 48 = .ok (.aload_n 0, 1) := by decide +kernel
theorem dX0_triplesCell_49 : decode cX0_triplesCell 49 = .ok (.iload_n 2, 1) := by decide +kernel
theorem dX0_triplesCell_50 : decode cX0_triplesCell 50 = .ok (.bipush 16, 2) := by decide +kernel
theorem dX0_triplesCell_52 : decode cX0_triplesCell 52 = .ok (.idiv, 1) := by decide +kernel
theorem dX0_triplesCell_53 : decode cX0_triplesCell 53 = .ok (.iload_n 2, 1) := by decide +kernel
theorem dX0_triplesCell_54 : decode cX0_triplesCell 54 = .ok (.bipush 16, 2) := by decide +kernel
theorem dX0_triplesCell_56 : decode cX0_triplesCell 56 = .ok (.irem, 1) := by decide +kernel
theorem dX0_triplesCell_57 : decode cX0_triplesCell 57 = .ok (.invokevirtual 64, 3) := by decide +kernel
theorem dX0_triplesCell_60 : decode cX0_triplesCell 60 = .ok (.lreturn, 1) := by decide +kernel
theorem dX0_byRowsCell_0 : decode cX0_byRowsCell 0 = .ok (.aload_n 0, 1) := by decide +kernel
theorem dX0_byRowsCell_1 : decode cX0_byRowsCell 1 = .ok (.invokestatic 32, 3) := by decide +kernel
theorem dX0_byRowsCell_4 : decode cX0_byRowsCell 4 = .ok (.istore_n 2, 1) := by decide +kernel
theorem dX0_byRowsCell_5 : decode cX0_byRowsCell 5 = .ok (.iload_n 1, 1) := by decide +kernel
theorem dX0_byRowsCell_6 : decode cX0_byRowsCell 6 = .ok (.iload_n 2, 1) := by decide +kernel
theorem dX0_byRowsCell_7 : decode cX0_byRowsCell 7 = .ok (.if_icmp .ge 10, 3) := by decide +kernel
theorem dX0_byRowsCell_10 : decode cX0_byRowsCell 10 = .ok (.aload_n 0, 1) := by decide +kernel
theorem dX0_byRowsCell_11 : decode cX0_byRowsCell 11 = .ok (.iload_n 1, 1) := by decide +kernel
theorem dX0_byRowsCell_12 : decode cX0_byRowsCell 12 = .ok (.invokestatic 68, 3) := by decide +kernel
theorem dX0_byRowsCell_15 : decode cX0_byRowsCell 15 = .ok (.i2l, 1) := by decide +kernel
theorem dX0_byRowsCell_16 : decode cX0_byRowsCell 16 = .ok (.lreturn, 1) := by decide +kernel
theorem dX0_byRowsCell_17 : decode cX0_byRowsCell 17 = .ok (.aload_n 0, 1) := by decide +kernel
theorem dX0_byRowsCell_18 : decode cX0_byRowsCell 18 = .ok (.iload_n 1, 1) := by decide +kernel
theorem dX0_byRowsCell_19 : decode cX0_byRowsCell 19 = .ok (.iload_n 2, 1) := by decide +kernel
theorem dX0_byRowsCell_20 : decode cX0_byRowsCell 20 = .ok (.isub, 1) := by decide +kernel
theorem dX0_byRowsCell_21 : decode cX0_byRowsCell 21 = .ok (.invokevirtual 60, 3) := by decide +kernel
theorem dX0_byRowsCell_24 : decode cX0_byRowsCell 24 = .ok (.istore_n 3, 1) := by decide +kernel
theorem dX0_byRowsCell_25 : decode cX0_byRowsCell 25 = .ok (.aload_n 0, 1) := by decide +kernel
theorem dX0_byRowsCell_26 : decode cX0_byRowsCell 26 = .ok (.iload_n 3, 1) := by decide +kernel
theorem dX0_byRowsCell_27 : decode cX0_byRowsCell 27 = .ok (.bipush 16, 2) := by decide +kernel
theorem dX0_byRowsCell_29 : decode cX0_byRowsCell 29 = .ok (.idiv, 1) := by decide +kernel
theorem dX0_byRowsCell_30 : decode cX0_byRowsCell 30 = .ok (.iload_n 3, 1) := by decide +kernel
theorem dX0_byRowsCell_31 : decode cX0_byRowsCell 31 = .ok (.bipush 16, 2) := by decide +kernel
theorem dX0_byRowsCell_33 : decode cX0_byRowsCell 33 = .ok (.irem, 1) := by decide +kernel
theorem dX0_byRowsCell_34 : decode cX0_byRowsCell 34 = .ok (.invokevirtual 64, 3) := by decide +kernel
theorem dX0_byRowsCell_37 : decode cX0_byRowsCell 37 = .ok (.lreturn, 1) := by decide +kernel
theorem dX0_blocksCell_0 : decode cX0_blocksCell 0 = .ok (.aload_n 1, 1) := by decide +kernel
theorem dX0_blocksCell_1 : decode cX0_blocksCell 1 = .ok (.invokestatic 32, 3) := by decide +kernel
theorem dX0_blocksCell_4 : decode cX0_blocksCell 4 = .ok (.istore 4, 2) := by decide +kernel
theorem dX0_blocksCell_6 : decode cX0_blocksCell 6 = .ok (.iload_n 3, 1) := by decide +kernel
theorem dX0_blocksCell_7 : decode cX0_blocksCell 7 = .ok (.iload 4, 2) := by decide +kernel
theorem dX0_blocksCell_9 : decode cX0_blocksCell 9 = .ok (.if_icmp .ge 10, 3) := by decide +kernel
theorem dX0_blocksCell_12 : decode cX0_blocksCell 12 = .ok (.aload_n 1, 1) := by decide +kernel
theorem dX0_blocksCell_13 : decode cX0_blocksCell 13 = .ok (.iload_n 3, 1) := by decide +kernel
theorem dX0_blocksCell_14 : decode cX0_blocksCell 14 = .ok (.invokestatic 68, 3) := by decide +kernel
theorem dX0_blocksCell_17 : decode cX0_blocksCell 17 = .ok (.i2l, 1) := by decide +kernel
theorem dX0_blocksCell_18 : decode cX0_blocksCell 18 = .ok (.lreturn, 1) := by decide +kernel
theorem dX0_blocksCell_19 : decode cX0_blocksCell 19 = .ok (.iload_n 2, 1) := by decide +kernel
theorem dX0_blocksCell_20 : decode cX0_blocksCell 20 = .ok (.iload_n 2, 1) := by decide +kernel
theorem dX0_blocksCell_21 : decode cX0_blocksCell 21 = .ok (.imul, 1) := by decide +kernel
theorem dX0_blocksCell_22 : decode cX0_blocksCell 22 = .ok (.istore 5, 2) := by decide +kernel
theorem dX0_blocksCell_24 : decode cX0_blocksCell 24 = .ok (.iload_n 2, 1) := by decide +kernel
theorem dX0_blocksCell_25 : decode cX0_blocksCell 25 = .ok (.iconst 1, 1) := by decide +kernel
theorem dX0_blocksCell_26 : decode cX0_blocksCell 26 = .ok (.if_icmp .lt 9, 3) := by decide +kernel
theorem dX0_blocksCell_29 : decode cX0_blocksCell 29 = .ok (.iload 5, 2) := by decide +kernel
theorem dX0_blocksCell_31 : decode cX0_blocksCell 31 = .ok (.iconst 1, 1) := by decide +kernel
theorem dX0_blocksCell_32 : decode cX0_blocksCell 32 = .ok (.if_icmp .ge 5, 3) := by decide +kernel
theorem dX0_blocksCell_35 : decode cX0_blocksCell 35 = .ok (.lconst 0, 1) := by decide +kernel
theorem dX0_blocksCell_36 : decode cX0_blocksCell 36 = .ok (.lreturn, 1) := by decide +kernel
theorem dX0_blocksCell_37 : decode cX0_blocksCell 37 = .ok (.aload_n 1, 1) := by decide +kernel
theorem dX0_blocksCell_38 : decode cX0_blocksCell 38 = .ok (.iload_n 3, 1) := by decide +kernel
theorem dX0_blocksCell_39 : decode cX0_blocksCell 39 = .ok (.iload 4, 2) := by decide +kernel
theorem dX0_blocksCell_41 : decode cX0_blocksCell 41 = .ok (.isub, 1) := by decide +kernel
theorem dX0_blocksCell_42 : decode cX0_blocksCell 42 = .ok (.iload 5, 2) := by decide +kernel
theorem dX0_blocksCell_44 : decode cX0_blocksCell 44 = .ok (.idiv, 1) := by decide +kernel
theorem dX0_blocksCell_45 : decode cX0_blocksCell 45 = .ok (.invokevirtual 60, 3) := by decide +kernel
theorem dX0_blocksCell_48 : decode cX0_blocksCell 48 = .ok (.istore 6, 2) := by decide +kernel
theorem dX0_blocksCell_50 : decode cX0_blocksCell 50 = .ok (.iload_n 3, 1) := by decide +kernel
theorem dX0_blocksCell_51 : decode cX0_blocksCell 51 = .ok (.iload 4, 2) := by decide +kernel
theorem dX0_blocksCell_53 : decode cX0_blocksCell 53 = .ok (.isub, 1) := by decide +kernel
theorem dX0_blocksCell_54 : decode cX0_blocksCell 54 = .ok (.iload 5, 2) := by decide +kernel
theorem dX0_blocksCell_56 : decode cX0_blocksCell 56 = .ok (.irem, 1) := by decide +kernel
theorem dX0_blocksCell_57 : decode cX0_blocksCell 57 = .ok (.istore 7, 2) := by decide +kernel
theorem dX0_blocksCell_59 : decode cX0_blocksCell 59 = .ok (.aload_n 0, 1) := by decide +kernel
theorem dX0_blocksCell_60 : decode cX0_blocksCell 60 = .ok (.iload 6, 2) := by decide +kernel
theorem dX0_blocksCell_62 : decode cX0_blocksCell 62 = .ok (.bipush 16, 2) := by decide +kernel
theorem dX0_blocksCell_64 : decode cX0_blocksCell 64 = .ok (.idiv, 1) := by decide +kernel
theorem dX0_blocksCell_65 : decode cX0_blocksCell 65 = .ok (.iload_n 2, 1) := by decide +kernel
theorem dX0_blocksCell_66 : decode cX0_blocksCell 66 = .ok (.imul, 1) := by decide +kernel
theorem dX0_blocksCell_67 : decode cX0_blocksCell 67 = .ok (.iload 7, 2) := by decide +kernel
theorem dX0_blocksCell_69 : decode cX0_blocksCell 69 = .ok (.iload_n 2, 1) := by decide +kernel
theorem dX0_blocksCell_70 : decode cX0_blocksCell 70 = .ok (.idiv, 1) := by decide +kernel
theorem dX0_blocksCell_71 : decode cX0_blocksCell 71 = .ok (.iadd, 1) := by decide +kernel
theorem dX0_blocksCell_72 : decode cX0_blocksCell 72 = .ok (.iload 6, 2) := by decide +kernel
theorem dX0_blocksCell_74 : decode cX0_blocksCell 74 = .ok (.bipush 16, 2) := by decide +kernel
theorem dX0_blocksCell_76 : decode cX0_blocksCell 76 = .ok (.irem, 1) := by decide +kernel
theorem dX0_blocksCell_77 : decode cX0_blocksCell 77 = .ok (.iload_n 2, 1) := by decide +kernel
theorem dX0_blocksCell_78 : decode cX0_blocksCell 78 = .ok (.imul, 1) := by decide +kernel
theorem dX0_blocksCell_79 : decode cX0_blocksCell 79 = .ok (.iload 7, 2) := by decide +kernel
theorem dX0_blocksCell_81 : decode cX0_blocksCell 81 = .ok (.iload_n 2, 1) := by decide +kernel
theorem dX0_blocksCell_82 : decode cX0_blocksCell 82 = .ok (.irem, 1) := by decide +kernel
theorem dX0_blocksCell_83 : decode cX0_blocksCell 83 = .ok (.iadd, 1) := by decide +kernel
theorem dX0_blocksCell_84 : decode cX0_blocksCell 84 = .ok (.invokevirtual 64, 3) := by decide +kernel
theorem dX0_blocksCell_87 : decode cX0_blocksCell 87 = .ok (.lreturn, 1) := by decide +kernel
theorem dX0_headLength_0 : decode cX0_headLength 0 = .ok (.aload_n 0, 1) := by decide +kernel
theorem dX0_headLength_1 : decode cX0_headLength 1 = .ok (.getfield 21, 3) := by decide +kernel
theorem dX0_headLength_4 : decode cX0_headLength 4 = .ok (.iconst 1, 1) := by decide +kernel
theorem dX0_headLength_5 : decode cX0_headLength 5 = .ok (.iadd, 1) := by decide +kernel
theorem dX0_headLength_6 : decode cX0_headLength 6 = .ok (.aload_n 0, 1) := by decide +kernel
theorem dX0_headLength_7 : decode cX0_headLength 7 = .ok (.invokevirtual 15, 3) := by decide +kernel
theorem dX0_headLength_10 : decode cX0_headLength 10 = .ok (.iadd, 1) := by decide +kernel
theorem dX0_headLength_11 : decode cX0_headLength 11 = .ok (.ireturn, 1) := by decide +kernel
theorem dX0_headCell_0 : decode cX0_headCell 0 = .ok (.iload_n 1, 1) := by decide +kernel
theorem dX0_headCell_1 : decode cX0_headCell 1 = .ok (.aload_n 0, 1) := by decide +kernel
theorem dX0_headCell_2 : decode cX0_headCell 2 = .ok (.getfield 21, 3) := by decide +kernel
theorem dX0_headCell_5 : decode cX0_headCell 5 = .ok (.if_icmp .gt 9, 3) := by decide +kernel
theorem dX0_headCell_8 : decode cX0_headCell 8 = .ok (.aload_n 0, 1) := by decide +kernel
theorem dX0_headCell_9 : decode cX0_headCell 9 = .ok (.iload_n 1, 1) := by decide +kernel
theorem dX0_headCell_10 : decode cX0_headCell 10 = .ok (.invokevirtual 72, 3) := by decide +kernel
theorem dX0_headCell_13 : decode cX0_headCell 13 = .ok (.ireturn, 1) := by decide +kernel
theorem dX0_headCell_14 : decode cX0_headCell 14 = .ok (.aload_n 0, 1) := by decide +kernel
theorem dX0_headCell_15 : decode cX0_headCell 15 = .ok (.iload_n 1, 1) := by decide +kernel
theorem dX0_headCell_16 : decode cX0_headCell 16 = .ok (.aload_n 0, 1) := by decide +kernel
theorem dX0_headCell_17 : decode cX0_headCell 17 = .ok (.getfield 21, 3) := by decide +kernel
theorem dX0_headCell_20 : decode cX0_headCell 20 = .ok (.isub, 1) := by decide +kernel
theorem dX0_headCell_21 : decode cX0_headCell 21 = .ok (.iconst 1, 1) := by decide +kernel
theorem dX0_headCell_22 : decode cX0_headCell 22 = .ok (.isub, 1) := by decide +kernel
theorem dX0_headCell_23 : decode cX0_headCell 23 = .ok (.invokevirtual 60, 3) := by decide +kernel
theorem dX0_headCell_26 : decode cX0_headCell 26 = .ok (.bipush 16, 2) := by decide +kernel
theorem dX0_headCell_28 : decode cX0_headCell 28 = .ok (.irem, 1) := by decide +kernel
theorem dX0_headCell_29 : decode cX0_headCell 29 = .ok (.ireturn, 1) := by decide +kernel
theorem dX0_fullCell_0 : decode cX0_fullCell 0 = .ok (.aload_n 0, 1) := by decide +kernel
theorem dX0_fullCell_1 : decode cX0_fullCell 1 = .ok (.getfield 25, 3) := by decide +kernel
theorem dX0_fullCell_4 : decode cX0_fullCell 4 = .ok (.istore_n 2, 1) := by decide +kernel
theorem dX0_fullCell_5 : decode cX0_fullCell 5 = .ok (.iload_n 2, 1) := by decide +kernel
theorem dX0_fullCell_6 : decode cX0_fullCell 6 = .ok (.iconst 1, 1) := by decide +kernel
theorem dX0_fullCell_7 : decode cX0_fullCell 7 = .ok (.if_icmp .ge 7, 3) := by decide +kernel
theorem dX0_fullCell_10 : decode cX0_fullCell 10 = .ok (.lconst 0, 1) := by decide +kernel
theorem dX0_fullCell_11 : decode cX0_fullCell 11 = .ok (.goto 13, 3) := by decide +kernel
theorem dX0_fullCell_14 : decode cX0_fullCell 14 = .ok (.aload_n 0, 1) := by decide +kernel
theorem dX0_fullCell_15 : decode cX0_fullCell 15 = .ok (.iload_n 1, 1) := by decide +kernel
theorem dX0_fullCell_16 : decode cX0_fullCell 16 = .ok (.iload_n 2, 1) := by decide +kernel
theorem dX0_fullCell_17 : decode cX0_fullCell 17 = .ok (.idiv, 1) := by decide +kernel
theorem dX0_fullCell_18 : decode cX0_fullCell 18 = .ok (.iload_n 1, 1) := by decide +kernel
theorem dX0_fullCell_19 : decode cX0_fullCell 19 = .ok (.iload_n 2, 1) := by decide +kernel
theorem dX0_fullCell_20 : decode cX0_fullCell 20 = .ok (.irem, 1) := by decide +kernel
theorem dX0_fullCell_21 : decode cX0_fullCell 21 = .ok (.invokevirtual 64, 3) := by decide +kernel
theorem dX0_fullCell_24 : decode cX0_fullCell 24 = .ok (.lreturn, 1) := by decide +kernel
theorem dX0_slantCount_0 : decode cX0_slantCount 0 = .ok (.iconst 0, 1) := by decide +kernel
theorem dX0_slantCount_1 : decode cX0_slantCount 1 = .ok (.istore_n 1, 1) := by decide +kernel
theorem dX0_slantCount_2 : decode cX0_slantCount 2 = .ok (.bipush (-15), 2) := by decide +kernel
theorem dX0_slantCount_4 : decode cX0_slantCount 4 = .ok (.istore_n 2, 1) := by decide +kernel
theorem dX0_slantCount_5 : decode cX0_slantCount 5 = .ok (.iload_n 2, 1) := by decide +kernel
theorem dX0_slantCount_6 : decode cX0_slantCount 6 = .ok (.bipush 16, 2) := by decide +kernel
theorem dX0_slantCount_8 : decode cX0_slantCount 8 = .ok (.if_icmp .ge 20, 3) := by decide +kernel
theorem dX0_slantCount_11 : decode cX0_slantCount 11 = .ok (.aload_n 0, 1) := by decide +kernel
theorem dX0_slantCount_12 : decode cX0_slantCount 12 = .ok (.iload_n 2, 1) := by decide +kernel
theorem dX0_slantCount_13 : decode cX0_slantCount 13 = .ok (.invokevirtual 75, 3) := by decide +kernel
theorem dX0_slantCount_16 : decode cX0_slantCount 16 = .ok (.ifCond .eq 6, 3) := by decide +kernel
theorem dX0_slantCount_19 : decode cX0_slantCount 19 = .ok (.iinc 1 1, 3) := by decide +kernel
theorem dX0_slantCount_22 : decode cX0_slantCount 22 = .ok (.iinc 2 1, 3) := by decide +kernel
theorem dX0_slantCount_25 : decode cX0_slantCount 25 = .ok (.goto (-20), 3) := by decide +kernel
theorem dX0_slantCount_28 : decode cX0_slantCount 28 = .ok (.iload_n 1, 1) := by decide +kernel
theorem dX0_slantCount_29 : decode cX0_slantCount 29 = .ok (.ireturn, 1) := by decide +kernel
theorem dX0_slantsCell_0 : decode cX0_slantsCell 0 = .ok (.iload_n 1, 1) := by decide +kernel
theorem dX0_slantsCell_1 : decode cX0_slantsCell 1 = .ok (.istore_n 2, 1) := by decide +kernel
theorem dX0_slantsCell_2 : decode cX0_slantsCell 2 = .ok (.bipush (-15), 2) := by decide +kernel
theorem dX0_slantsCell_4 : decode cX0_slantsCell 4 = .ok (.istore_n 3, 1) := by decide +kernel
theorem dX0_slantsCell_5 : decode cX0_slantsCell 5 = .ok (.iload_n 3, 1) := by decide +kernel
theorem dX0_slantsCell_6 : decode cX0_slantsCell 6 = .ok (.bipush 16, 2) := by decide +kernel
theorem dX0_slantsCell_8 : decode cX0_slantsCell 8 = .ok (.if_icmp .ge 54, 3) := by decide +kernel
theorem dX0_slantsCell_11 : decode cX0_slantsCell 11 = .ok (.aload_n 0, 1) := by decide +kernel
theorem dX0_slantsCell_12 : decode cX0_slantsCell 12 = .ok (.iload_n 3, 1) := by decide +kernel
theorem dX0_slantsCell_13 : decode cX0_slantsCell 13 = .ok (.invokevirtual 75, 3) := by decide +kernel
theorem dX0_slantsCell_16 : decode cX0_slantsCell 16 = .ok (.ifCond .eq 40, 3) := by decide +kernel
theorem dX0_slantsCell_19 : decode cX0_slantsCell 19 = .ok (.iload_n 2, 1) := by decide +kernel
theorem dX0_slantsCell_20 : decode cX0_slantsCell 20 = .ok (.ifCond .ne 6, 3) := by decide +kernel
theorem dX0_slantsCell_23 : decode cX0_slantsCell 23 = .ok (.iload_n 3, 1) := by decide +kernel
theorem dX0_slantsCell_24 : decode cX0_slantsCell 24 = .ok (.i2l, 1) := by decide +kernel
theorem dX0_slantsCell_25 : decode cX0_slantsCell 25 = .ok (.lreturn, 1) := by decide +kernel
theorem dX0_slantsCell_26 : decode cX0_slantsCell 26 = .ok (.iload_n 2, 1) := by decide +kernel
theorem dX0_slantsCell_27 : decode cX0_slantsCell 27 = .ok (.aload_n 0, 1) := by decide +kernel
theorem dX0_slantsCell_28 : decode cX0_slantsCell 28 = .ok (.getfield 21, 3) := by decide +kernel
theorem dX0_slantsCell_31 : decode cX0_slantsCell 31 = .ok (.if_icmp .gt 16, 3) := by decide +kernel
theorem dX0_slantsCell_34 : decode cX0_slantsCell 34 = .ok (.aload_n 0, 1) := by decide +kernel
theorem dX0_slantsCell_35 : decode cX0_slantsCell 35 = .ok (.iload_n 2, 1) := by decide +kernel
theorem dX0_slantsCell_36 : decode cX0_slantsCell 36 = .ok (.iconst 1, 1) := by decide +kernel
theorem dX0_slantsCell_37 : decode cX0_slantsCell 37 = .ok (.isub, 1) := by decide +kernel
theorem dX0_slantsCell_38 : decode cX0_slantsCell 38 = .ok (.iload_n 2, 1) := by decide +kernel
theorem dX0_slantsCell_39 : decode cX0_slantsCell 39 = .ok (.iconst 1, 1) := by decide +kernel
theorem dX0_slantsCell_40 : decode cX0_slantsCell 40 = .ok (.isub, 1) := by decide +kernel
theorem dX0_slantsCell_41 : decode cX0_slantsCell 41 = .ok (.iload_n 3, 1) := by decide +kernel
theorem dX0_slantsCell_42 : decode cX0_slantsCell 42 = .ok (.iadd, 1) := by decide +kernel
theorem dX0_slantsCell_43 : decode cX0_slantsCell 43 = .ok (.invokevirtual 64, 3) := by decide +kernel
theorem dX0_slantsCell_46 : decode cX0_slantsCell 46 = .ok (.lreturn, 1) := by decide +kernel
theorem dX0_slantsCell_47 : decode cX0_slantsCell 47 = .ok (.iload_n 2, 1) := by decide +kernel
theorem dX0_slantsCell_48 : decode cX0_slantsCell 48 = .ok (.aload_n 0, 1) := by decide +kernel
theorem dX0_slantsCell_49 : decode cX0_slantsCell 49 = .ok (.getfield 21, 3) := by decide +kernel
theorem dX0_slantsCell_52 : decode cX0_slantsCell 52 = .ok (.iconst 1, 1) := by decide +kernel
theorem dX0_slantsCell_53 : decode cX0_slantsCell 53 = .ok (.iadd, 1) := by decide +kernel
theorem dX0_slantsCell_54 : decode cX0_slantsCell 54 = .ok (.isub, 1) := by decide +kernel
theorem dX0_slantsCell_55 : decode cX0_slantsCell 55 = .ok (.istore_n 2, 1) := by decide +kernel
theorem dX0_slantsCell_56 : decode cX0_slantsCell 56 = .ok (.iinc 3 1, 3) := by decide +kernel
theorem dX0_slantsCell_59 : decode cX0_slantsCell 59 = .ok (.goto (-54), 3) := by decide +kernel
theorem dX0_slantsCell_62 : decode cX0_slantsCell 62 = .ok (.lconst 0, 1) := by decide +kernel
theorem dX0_slantsCell_63 : decode cX0_slantsCell 63 = .ok (.lreturn, 1) := by decide +kernel
theorem dX1_init_0 : decode cX1_init 0 = .ok (.aload_n 0, 1) := by decide +kernel
theorem dX1_init_1 : decode cX1_init 1 = .ok (.invokespecial 3, 3) := by decide +kernel
theorem dX1_init_4 : decode cX1_init 4 = .ok (.aload_n 0, 1) := by decide +kernel
theorem dX1_init_5 : decode cX1_init 5 = .ok (.iconst 0, 1) := by decide +kernel
theorem dX1_init_6 : decode cX1_init 6 = .ok (.putfield 9, 3) := by decide +kernel
theorem dX1_init_9 : decode cX1_init 9 = .ok (.aload_n 0, 1) := by decide +kernel
theorem dX1_init_10 : decode cX1_init 10 = .ok (.bipush 16, 2) := by decide +kernel
theorem dX1_init_12 : decode cX1_init 12 = .ok (.newarray .int, 2) := by decide +kernel
theorem dX1_init_14 : decode cX1_init 14 = .ok (.putfield 15, 3) := by decide +kernel
theorem dX1_init_17 : decode cX1_init 17 = .ok (.aload_n 0, 1) := by decide +kernel
theorem dX1_init_18 : decode cX1_init 18 = .ok (.bipush 16, 2) := by decide +kernel
theorem dX1_init_20 : decode cX1_init 20 = .ok (.newarray .int, 2) := by decide +kernel
theorem dX1_init_22 : decode cX1_init 22 = .ok (.putfield 19, 3) := by decide +kernel
theorem dX1_init_25 : decode cX1_init 25 = .ok (.aload_n 0, 1) := by decide +kernel
theorem dX1_init_26 : decode cX1_init 26 = .ok (.bipush 16, 2) := by decide +kernel
theorem dX1_init_28 : decode cX1_init 28 = .ok (.newarray .int, 2) := by decide +kernel
theorem dX1_init_30 : decode cX1_init 30 = .ok (.putfield 22, 3) := by decide +kernel
theorem dX1_init_33 : decode cX1_init 33 = .ok (.aload_n 0, 1) := by decide +kernel
theorem dX1_init_34 : decode cX1_init 34 = .ok (.bipush 16, 2) := by decide +kernel
theorem dX1_init_36 : decode cX1_init 36 = .ok (.newarray .long, 2) := by decide +kernel
theorem dX1_init_38 : decode cX1_init 38 = .ok (.putfield 25, 3) := by decide +kernel
theorem dX1_init_41 : decode cX1_init 41 = .ok (.aload_n 0, 1) := by decide +kernel
theorem dX1_init_42 : decode cX1_init 42 = .ok (.bipush 16, 2) := by decide +kernel
theorem dX1_init_44 : decode cX1_init 44 = .ok (.newarray .long, 2) := by decide +kernel
theorem dX1_init_46 : decode cX1_init 46 = .ok (.putfield 29, 3) := by decide +kernel
theorem dX1_init_49 : decode cX1_init 49 = .ok (.return_, 1) := by decide +kernel
theorem dX1_read_0 : decode cX1_read 0 = .ok (.aload_n 0, 1) := by decide +kernel
theorem dX1_read_1 : decode cX1_read 1 = .ok (.aload_n 1, 1) := by decide +kernel
theorem dX1_read_2 : decode cX1_read 2 = .ok (.getfield 32, 3) := by decide +kernel
theorem dX1_read_5 : decode cX1_read 5 = .ok (.putfield 9, 3) := by decide +kernel
theorem dX1_read_8 : decode cX1_read 8 = .ok (.iconst 0, 1) := by decide +kernel
theorem dX1_read_9 : decode cX1_read 9 = .ok (.istore_n 2, 1) := by decide +kernel
theorem dX1_read_10 : decode cX1_read 10 = .ok (.iload_n 2, 1) := by decide +kernel
theorem dX1_read_11 : decode cX1_read 11 = .ok (.bipush 16, 2) := by decide +kernel
theorem dX1_read_13 : decode cX1_read 13 = .ok (.if_icmp .ge 20, 3) := by decide +kernel
theorem dX1_read_16 : decode cX1_read 16 = .ok (.aload_n 0, 1) := by decide +kernel
theorem dX1_read_17 : decode cX1_read 17 = .ok (.getfield 15, 3) := by decide +kernel
theorem dX1_read_20 : decode cX1_read 20 = .ok (.iload_n 2, 1) := by decide +kernel
theorem dX1_read_21 : decode cX1_read 21 = .ok (.aload_n 1, 1) := by decide +kernel
theorem dX1_read_22 : decode cX1_read 22 = .ok (.iload_n 2, 1) := by decide +kernel
theorem dX1_read_23 : decode cX1_read 23 = .ok (.invokevirtual 37, 3) := by decide +kernel
theorem dX1_read_26 : decode cX1_read 26 = .ok (.iastore, 1) := by decide +kernel
theorem dX1_read_27 : decode cX1_read 27 = .ok (.iinc 2 1, 3) := by decide +kernel
theorem dX1_read_30 : decode cX1_read 30 = .ok (.goto (-20), 3) := by decide +kernel
theorem dX1_read_33 : decode cX1_read 33 = .ok (.iconst 0, 1) := by decide +kernel
theorem dX1_read_34 : decode cX1_read 34 = .ok (.istore_n 2, 1) := by decide +kernel
theorem dX1_read_35 : decode cX1_read 35 = .ok (.iload_n 2, 1) := by decide +kernel
theorem dX1_read_36 : decode cX1_read 36 = .ok (.bipush 16, 2) := by decide +kernel
theorem dX1_read_38 : decode cX1_read 38 = .ok (.if_icmp .ge 33, 3) := by decide +kernel
theorem dX1_read_41 : decode cX1_read 41 = .ok (.aload_n 0, 1) := by decide +kernel
theorem dX1_read_42 : decode cX1_read 42 = .ok (.getfield 19, 3) := by decide +kernel
theorem dX1_read_45 : decode cX1_read 45 = .ok (.iload_n 2, 1) := by decide +kernel
theorem dX1_read_46 : decode cX1_read 46 = .ok (.aload_n 0, 1) := by decide +kernel
theorem dX1_read_47 : decode cX1_read 47 = .ok (.getfield 15, 3) := by decide +kernel
theorem dX1_read_50 : decode cX1_read 50 = .ok (.iload_n 2, 1) := by decide +kernel
theorem dX1_read_51 : decode cX1_read 51 = .ok (.iaload, 1) := by decide +kernel
theorem dX1_read_52 : decode cX1_read 52 = .ok (.aload_n 0, 1) := by decide +kernel
theorem dX1_read_53 : decode cX1_read 53 = .ok (.iload_n 2, 1) := by decide +kernel
theorem dX1_read_54 : decode cX1_read 54 = .ok (.invokevirtual 41, 3) := by decide +kernel
theorem dX1_read_57 : decode cX1_read 57 = .ok (.ior, 1) := by decide +kernel
theorem dX1_read_58 : decode cX1_read 58 = .ok (.iconst 1, 1) := by decide +kernel
theorem dX1_read_59 : decode cX1_read 59 = .ok (.iload_n 2, 1) := by decide +kernel
theorem dX1_read_60 : decode cX1_read 60 = .ok (.ishl, 1) := by decide +kernel
theorem dX1_read_61 : decode cX1_read 61 = .ok (.iconst (-1), 1) := by decide +kernel
theorem dX1_read_62 : decode cX1_read 62 = .ok (.ixor, 1) := by decide +kernel
theorem dX1_read_63 : decode cX1_read 63 = .ok (.iand, 1) := by decide +kernel
theorem dX1_read_64 : decode cX1_read 64 = .ok (.iastore, 1) := by decide +kernel
theorem dX1_read_65 : decode cX1_read 65 = .ok (.iinc 2 1, 3) := by decide +kernel
theorem dX1_read_68 : decode cX1_read 68 = .ok (.goto (-33), 3) := by decide +kernel
theorem dX1_read_71 : decode cX1_read 71 = .ok (.return_, 1) := by decide +kernel
theorem dX1_sourcesOf_0 : decode cX1_sourcesOf 0 = .ok (.iconst 0, 1) := by decide +kernel
theorem dX1_sourcesOf_1 : decode cX1_sourcesOf 1 = .ok (.istore_n 2, 1) := by decide +kernel
theorem dX1_sourcesOf_2 : decode cX1_sourcesOf 2 = .ok (.iconst 0, 1) := by decide +kernel
theorem dX1_sourcesOf_3 : decode cX1_sourcesOf 3 = .ok (.istore_n 3, 1) := by decide +kernel
theorem dX1_sourcesOf_4 : decode cX1_sourcesOf 4 = .ok (.iload_n 3, 1) := by decide +kernel
theorem dX1_sourcesOf_5 : decode cX1_sourcesOf 5 = .ok (.bipush 16, 2) := by decide +kernel
theorem dX1_sourcesOf_7 : decode cX1_sourcesOf 7 = .ok (.if_icmp .ge 28, 3) := by decide +kernel
theorem dX1_sourcesOf_10 : decode cX1_sourcesOf 10 = .ok (.aload_n 0, 1) := by decide +kernel
theorem dX1_sourcesOf_11 : decode cX1_sourcesOf 11 = .ok (.getfield 15, 3) := by decide +kernel
theorem dX1_sourcesOf_14 : decode cX1_sourcesOf 14 = .ok (.iload_n 3, 1) := by decide +kernel
theorem dX1_sourcesOf_15 : decode cX1_sourcesOf 15 = .ok (.iaload, 1) := by decide +kernel
theorem dX1_sourcesOf_16 : decode cX1_sourcesOf 16 = .ok (.iload_n 1, 1) := by decide +kernel
theorem dX1_sourcesOf_17 : decode cX1_sourcesOf 17 = .ok (.invokestatic 44, 3) := by decide +kernel
theorem dX1_sourcesOf_20 : decode cX1_sourcesOf 20 = .ok (.ifCond .eq 9, 3) := by decide +kernel
theorem dX1_sourcesOf_23 : decode cX1_sourcesOf 23 = .ok (.iload_n 2, 1) := by decide +kernel
theorem dX1_sourcesOf_24 : decode cX1_sourcesOf 24 = .ok (.iconst 1, 1) := by decide +kernel
theorem dX1_sourcesOf_25 : decode cX1_sourcesOf 25 = .ok (.iload_n 3, 1) := by decide +kernel
theorem dX1_sourcesOf_26 : decode cX1_sourcesOf 26 = .ok (.ishl, 1) := by decide +kernel
theorem dX1_sourcesOf_27 : decode cX1_sourcesOf 27 = .ok (.ior, 1) := by decide +kernel
theorem dX1_sourcesOf_28 : decode cX1_sourcesOf 28 = .ok (.istore_n 2, 1) := by decide +kernel
theorem dX1_sourcesOf_29 : decode cX1_sourcesOf 29 = .ok (.iinc 3 1, 3) := by decide +kernel
theorem dX1_sourcesOf_32 : decode cX1_sourcesOf 32 = .ok (.goto (-28), 3) := by decide +kernel
theorem dX1_sourcesOf_35 : decode cX1_sourcesOf 35 = .ok (.iload_n 2, 1) := by decide +kernel
theorem dX1_sourcesOf_36 : decode cX1_sourcesOf 36 = .ok (.ireturn, 1) := by decide +kernel
theorem dX1_allNodes_0 : decode cX1_allNodes 0 = .ok (.aload_n 0, 1) := by decide +kernel
theorem dX1_allNodes_1 : decode cX1_allNodes 1 = .ok (.getfield 9, 3) := by decide +kernel
theorem dX1_allNodes_4 : decode cX1_allNodes 4 = .ok (.invokestatic 48, 3) := by decide +kernel
theorem dX1_allNodes_7 : decode cX1_allNodes 7 = .ok (.ifCond .eq 14, 3) := by decide +kernel
theorem dX1_allNodes_10 : decode cX1_allNodes 10 = .ok (.iconst 1, 1) := by decide +kernel
theorem dX1_allNodes_11 : decode cX1_allNodes 11 = .ok (.aload_n 0, 1) := by decide +kernel
theorem dX1_allNodes_12 : decode cX1_allNodes 12 = .ok (.getfield 9, 3) := by decide +kernel
theorem dX1_allNodes_15 : decode cX1_allNodes 15 = .ok (.ishl, 1) := by decide +kernel
theorem dX1_allNodes_16 : decode cX1_allNodes 16 = .ok (.iconst 1, 1) := by decide +kernel
theorem dX1_allNodes_17 : decode cX1_allNodes 17 = .ok (.isub, 1) := by decide +kernel
theorem dX1_allNodes_18 : decode cX1_allNodes 18 = .ok (.goto 4, 3) := by decide +kernel
theorem dX1_allNodes_21 : decode cX1_allNodes 21 = .ok (.iconst 0, 1) := by decide +kernel
theorem dX1_allNodes_22 : decode cX1_allNodes 22 = .ok (.ireturn, 1) := by decide +kernel
theorem dX1_walkSum_0 : decode cX1_walkSum 0 = .ok (.iload_n 2, 1) := by decide +kernel
theorem dX1_walkSum_1 : decode cX1_walkSum 1 = .ok (.invokestatic 52, 3) := by decide +kernel
theorem dX1_walkSum_4 : decode cX1_walkSum 4 = .ok (.ifCond .eq 10, 3) := by decide +kernel
theorem dX1_walkSum_7 : decode cX1_walkSum 7 = .ok (.iload_n 3, 1) := by decide +kernel
theorem dX1_walkSum_8 : decode cX1_walkSum 8 = .ok (.invokestatic 52, 3) := by decide +kernel
theorem dX1_walkSum_11 : decode cX1_walkSum 11 = .ok (.ifCond .ne 5, 3) := by decide +kernel
theorem dX1_walkSum_14 : decode cX1_walkSum 14 = .ok (.lconst 0, 1) := by decide +kernel
theorem dX1_walkSum_15 : decode cX1_walkSum 15 = .ok (.lreturn, 1) := by decide +kernel
theorem dX1_walkSum_16 : decode cX1_walkSum 16 = .ok (.iconst 0, 1) := by decide +kernel
theorem dX1_walkSum_17 : decode cX1_walkSum 17 = .ok (.istore 5, 2) := by decide +kernel
theorem dX1_walkSum_19 : decode cX1_walkSum 19 = .ok (.iload 5, 2) := by decide +kernel
theorem dX1_walkSum_21 : decode cX1_walkSum 21 = .ok (.bipush 16, 2) := by decide +kernel
theorem dX1_walkSum_23 : decode cX1_walkSum 23 = .ok (.if_icmp .ge 27, 3) := by decide +kernel
theorem dX1_walkSum_26 : decode cX1_walkSum 26 = .ok (.aload_n 0, 1) := by decide +kernel
theorem dX1_walkSum_27 : decode cX1_walkSum 27 = .ok (.getfield 25, 3) := by decide +kernel
theorem dX1_walkSum_30 : decode cX1_walkSum 30 = .ok (.iload 5, 2) := by decide +kernel
theorem dX1_walkSum_32 : decode cX1_walkSum 32 = .ok (.iload 5, 2) := by decide +kernel
theorem dX1_walkSum_34 : decode cX1_walkSum 34 = .ok (.iload_n 2, 1) := by decide +kernel
theorem dX1_walkSum_35 : decode cX1_walkSum 35 = .ok (.if_icmp .ne 7, 3) := by decide +kernel
theorem dX1_walkSum_38 : decode cX1_walkSum 38 = .ok (.lconst 1, 1) := by decide +kernel
theorem dX1_walkSum_39 : decode cX1_walkSum 39 = .ok (.goto 4, 3) := by decide +kernel
theorem dX1_walkSum_42 : decode cX1_walkSum 42 = .ok (.lconst 0, 1) := by decide +kernel
theorem dX1_walkSum_43 : decode cX1_walkSum 43 = .ok (.lastore, 1) := by decide +kernel
theorem dX1_walkSum_44 : decode cX1_walkSum 44 = .ok (.iinc 5 1, 3) := by decide +kernel
theorem dX1_walkSum_47 : decode cX1_walkSum 47 = .ok (.goto (-28), 3) := by decide +kernel
theorem dX1_walkSum_50 : decode cX1_walkSum 50 = .ok (.iconst 0, 1) := by decide +kernel
theorem dX1_walkSum_51 : decode cX1_walkSum 51 = .ok (.istore 5, 2) := by decide +kernel
theorem dX1_walkSum_53 : decode cX1_walkSum 53 = .ok (.iload 5, 2) := by decide +kernel
theorem dX1_walkSum_55 : decode cX1_walkSum 55 = .ok (.bipush 60, 2) := by decide +kernel
theorem dX1_walkSum_57 : decode cX1_walkSum 57 = .ok (.if_icmp .ge 21, 3) := by decide +kernel
theorem dX1_walkSum_60 : decode cX1_walkSum 60 = .ok (.iload 5, 2) := by decide +kernel
theorem dX1_walkSum_62 : decode cX1_walkSum 62 = .ok (.iload 4, 2) := by decide +kernel
theorem dX1_walkSum_64 : decode cX1_walkSum 64 = .ok (.if_icmp .ge 14, 3) := by decide +kernel
theorem dX1_walkSum_67 : decode cX1_walkSum 67 = .ok (.aload_n 0, 1) := by decide +kernel
theorem dX1_walkSum_68 : decode cX1_walkSum 68 = .ok (.aload_n 1, 1) := by decide +kernel
theorem dX1_walkSum_69 : decode cX1_walkSum 69 = .ok (.invokevirtual 55, 3) := by decide +kernel
theorem dX1_walkSum_72 : decode cX1_walkSum 72 = .ok (.iinc 5 1, 3) := by decide +kernel
theorem dX1_walkSum_75 : decode cX1_walkSum 75 = .ok (.goto (-22), 3) := by decide +kernel
theorem dX1_walkSum_78 : decode cX1_walkSum 78 = .ok (.aload_n 0, 1) := by decide +kernel
theorem dX1_walkSum_79 : decode cX1_walkSum 79 = .ok (.getfield 25, 3) := by decide +kernel
theorem dX1_walkSum_82 : decode cX1_walkSum 82 = .ok (.iload_n 3, 1) := by decide +kernel
theorem dX1_walkSum_83 : decode cX1_walkSum 83 = .ok (.laload, 1) := by decide +kernel
theorem dX1_walkSum_84 : decode cX1_walkSum 84 = .ok (.lreturn, 1) := by decide +kernel
theorem dX1_walkOn_0 : decode cX1_walkOn 0 = .ok (.iconst 0, 1) := by decide +kernel
theorem dX1_walkOn_1 : decode cX1_walkOn 1 = .ok (.istore_n 2, 1) := by decide +kernel
theorem dX1_walkOn_2 : decode cX1_walkOn 2 = .ok (.iload_n 2, 1) := by decide +kernel
theorem dX1_walkOn_3 : decode cX1_walkOn 3 = .ok (.bipush 16, 2) := by decide +kernel
theorem dX1_walkOn_5 : decode cX1_walkOn 5 = .ok (.if_icmp .ge 16, 3) := by decide +kernel
theorem dX1_walkOn_8 : decode cX1_walkOn 8 = .ok (.aload_n 0, 1) := by decide +kernel
theorem dX1_walkOn_9 : decode cX1_walkOn 9 = .ok (.getfield 29, 3) := by decide +kernel
theorem dX1_walkOn_12 : decode cX1_walkOn 12 = .ok (.iload_n 2, 1) := by decide +kernel
theorem dX1_walkOn_13 : decode cX1_walkOn 13 = .ok (.lconst 0, 1) := by decide +kernel
theorem dX1_walkOn_14 : decode cX1_walkOn 14 = .ok (.lastore, 1) := by decide +kernel
theorem dX1_walkOn_15 : decode cX1_walkOn 15 = .ok (.iinc 2 1, 3) := by decide +kernel
theorem dX1_walkOn_18 : decode cX1_walkOn 18 = .ok (.goto (-16), 3) := by decide +kernel
theorem dX1_walkOn_21 : decode cX1_walkOn 21 = .ok (.iconst 0, 1) := by decide +kernel
theorem dX1_walkOn_22 : decode cX1_walkOn 22 = .ok (.istore_n 2, 1) := by decide +kernel
theorem dX1_walkOn_23 : decode cX1_walkOn 23 = .ok (.iload_n 2, 1) := by decide +kernel
theorem dX1_walkOn_24 : decode cX1_walkOn 24 = .ok (.bipush 16, 2) := by decide +kernel
theorem dX1_walkOn_26 : decode cX1_walkOn 26 = .ok (.if_icmp .ge 56, 3) := by decide +kernel
theorem dX1_walkOn_29 : decode cX1_walkOn 29 = .ok (.aload_n 0, 1) := by decide +kernel
theorem dX1_walkOn_30 : decode cX1_walkOn 30 = .ok (.getfield 25, 3) := by decide +kernel
theorem dX1_walkOn_33 : decode cX1_walkOn 33 = .ok (.iload_n 2, 1) := by decide +kernel
theorem dX1_walkOn_34 : decode cX1_walkOn 34 = .ok (.laload, 1) := by decide +kernel
theorem dX1_walkOn_35 : decode cX1_walkOn 35 = .ok (.lconst 0, 1) := by decide +kernel
theorem dX1_walkOn_36 : decode cX1_walkOn 36 = .ok (.lcmp, 1) := by decide +kernel
theorem dX1_walkOn_37 : decode cX1_walkOn 37 = .ok (.ifCond .eq 39, 3) := by decide +kernel
theorem dX1_walkOn_40 : decode cX1_walkOn 40 = .ok (.iconst 0, 1) := by decide +kernel
theorem dX1_walkOn_41 : decode cX1_walkOn 41 = .ok (.istore_n 3, 1) := by decide +kernel
theorem dX1_walkOn_42 : decode cX1_walkOn 42 = .ok (.iload_n 3, 1) := by decide +kernel
theorem dX1_walkOn_43 : decode cX1_walkOn 43 = .ok (.bipush 16, 2) := by decide +kernel
theorem dX1_walkOn_45 : decode cX1_walkOn 45 = .ok (.if_icmp .ge 31, 3) := by decide +kernel
theorem dX1_walkOn_48 : decode cX1_walkOn 48 = .ok (.aload_n 0, 1) := by decide +kernel
theorem dX1_walkOn_49 : decode cX1_walkOn 49 = .ok (.getfield 29, 3) := by decide +kernel
theorem dX1_walkOn_52 : decode cX1_walkOn 52 = .ok (.iload_n 3, 1) := by decide +kernel
theorem dX1_walkOn_53 : decode cX1_walkOn 53 = .ok (.dup2, 1) := by decide +kernel
theorem dX1_walkOn_54 : decode cX1_walkOn 54 = .ok (.laload, 1) := by decide +kernel
theorem dX1_walkOn_55 : decode cX1_walkOn 55 = .ok (.aload_n 0, 1) := by decide +kernel
theorem dX1_walkOn_56 : decode cX1_walkOn 56 = .ok (.getfield 25, 3) := by decide +kernel
theorem dX1_walkOn_59 : decode cX1_walkOn 59 = .ok (.iload_n 2, 1) := by decide +kernel
theorem dX1_walkOn_60 : decode cX1_walkOn 60 = .ok (.laload, 1) := by decide +kernel
theorem dX1_walkOn_61 : decode cX1_walkOn 61 = .ok (.aload_n 1, 1) := by decide +kernel
theorem dX1_walkOn_62 : decode cX1_walkOn 62 = .ok (.iload_n 2, 1) := by decide +kernel
theorem dX1_walkOn_63 : decode cX1_walkOn 63 = .ok (.iload_n 3, 1) := by decide +kernel
theorem dX1_walkOn_64 : decode cX1_walkOn 64 = .ok (.invokevirtual 59, 3) := by decide +kernel
theorem dX1_walkOn_67 : decode cX1_walkOn 67 = .ok (.lmul, 1) := by decide +kernel
theorem dX1_walkOn_68 : decode cX1_walkOn 68 = .ok (.ladd, 1) := by decide +kernel
theorem dX1_walkOn_69 : decode cX1_walkOn 69 = .ok (.lastore, 1) := by decide +kernel
theorem dX1_walkOn_70 : decode cX1_walkOn 70 = .ok (.iinc 3 1, 3) := by decide +kernel
theorem dX1_walkOn_73 : decode cX1_walkOn 73 = .ok (.goto (-31), 3) := by decide +kernel
theorem dX1_walkOn_76 : decode cX1_walkOn 76 = .ok (.iinc 2 1, 3) := by decide +kernel
theorem dX1_walkOn_79 : decode cX1_walkOn 79 = .ok (.goto (-56), 3) := by decide +kernel
theorem dX1_walkOn_82 : decode cX1_walkOn 82 = .ok (.aload_n 0, 1) := by decide +kernel
theorem dX1_walkOn_83 : decode cX1_walkOn 83 = .ok (.getfield 25, 3) := by decide +kernel
theorem dX1_walkOn_86 : decode cX1_walkOn 86 = .ok (.astore_n 2, 1) := by decide +kernel
theorem dX1_walkOn_87 : decode cX1_walkOn 87 = .ok (.aload_n 0, 1) := by decide +kernel
theorem dX1_walkOn_88 : decode cX1_walkOn 88 = .ok (.aload_n 0, 1) := by decide +kernel
theorem dX1_walkOn_89 : decode cX1_walkOn 89 = .ok (.getfield 29, 3) := by decide +kernel
theorem dX1_walkOn_92 : decode cX1_walkOn 92 = .ok (.putfield 25, 3) := by decide +kernel
theorem dX1_walkOn_95 : decode cX1_walkOn 95 = .ok (.aload_n 0, 1) := by decide +kernel
theorem dX1_walkOn_96 : decode cX1_walkOn 96 = .ok (.aload_n 2, 1) := by decide +kernel
theorem dX1_walkOn_97 : decode cX1_walkOn 97 = .ok (.putfield 29, 3) := by decide +kernel
theorem dX1_walkOn_100 : decode cX1_walkOn 100 = .ok (.return_, 1) := by decide +kernel
theorem dX1_wayLength_0 : decode cX1_wayLength 0 = .ok (.iload_n 1, 1) := by decide +kernel
theorem dX1_wayLength_1 : decode cX1_wayLength 1 = .ok (.invokestatic 52, 3) := by decide +kernel
theorem dX1_wayLength_4 : decode cX1_wayLength 4 = .ok (.ifCond .eq 10, 3) := by decide +kernel
theorem dX1_wayLength_7 : decode cX1_wayLength 7 = .ok (.iload_n 2, 1) := by decide +kernel
theorem dX1_wayLength_8 : decode cX1_wayLength 8 = .ok (.invokestatic 52, 3) := by decide +kernel
theorem dX1_wayLength_11 : decode cX1_wayLength 11 = .ok (.ifCond .ne 6, 3) := by decide +kernel
theorem dX1_wayLength_14 : decode cX1_wayLength 14 = .ok (.bipush (-3), 2) := by decide +kernel
theorem dX1_wayLength_16 : decode cX1_wayLength 16 = .ok (.ireturn, 1) := by decide +kernel
theorem dX1_wayLength_17 : decode cX1_wayLength 17 = .ok (.iconst 1, 1) := by decide +kernel
theorem dX1_wayLength_18 : decode cX1_wayLength 18 = .ok (.iload_n 1, 1) := by decide +kernel
theorem dX1_wayLength_19 : decode cX1_wayLength 19 = .ok (.ishl, 1) := by decide +kernel
theorem dX1_wayLength_20 : decode cX1_wayLength 20 = .ok (.istore_n 3, 1) := by decide +kernel
theorem dX1_wayLength_21 : decode cX1_wayLength 21 = .ok (.iconst 0, 1) := by decide +kernel
theorem dX1_wayLength_22 : decode cX1_wayLength 22 = .ok (.istore 4, 2) := by decide +kernel
theorem dX1_wayLength_24 : decode cX1_wayLength 24 = .ok (.iload 4, 2) := by decide +kernel
theorem dX1_wayLength_26 : decode cX1_wayLength 26 = .ok (.bipush 16, 2) := by decide +kernel
theorem dX1_wayLength_28 : decode cX1_wayLength 28 = .ok (.if_icmp .ge 28, 3) := by decide +kernel
theorem dX1_wayLength_31 : decode cX1_wayLength 31 = .ok (.iload_n 3, 1) := by decide +kernel
theorem dX1_wayLength_32 : decode cX1_wayLength 32 = .ok (.iload_n 2, 1) := by decide +kernel
theorem dX1_wayLength_33 : decode cX1_wayLength 33 = .ok (.invokestatic 44, 3) := by decide +kernel
theorem dX1_wayLength_36 : decode cX1_wayLength 36 = .ok (.ifCond .eq 6, 3) := by decide +kernel
theorem dX1_wayLength_39 : decode cX1_wayLength 39 = .ok (.iload 4, 2) := by decide +kernel
theorem dX1_wayLength_41 : decode cX1_wayLength 41 = .ok (.ireturn, 1) := by decide +kernel
theorem dX1_wayLength_42 : decode cX1_wayLength 42 = .ok (.iload_n 3, 1) := by decide +kernel
theorem dX1_wayLength_43 : decode cX1_wayLength 43 = .ok (.aload_n 0, 1) := by decide +kernel
theorem dX1_wayLength_44 : decode cX1_wayLength 44 = .ok (.iload_n 3, 1) := by decide +kernel
theorem dX1_wayLength_45 : decode cX1_wayLength 45 = .ok (.invokevirtual 63, 3) := by decide +kernel
theorem dX1_wayLength_48 : decode cX1_wayLength 48 = .ok (.ior, 1) := by decide +kernel
theorem dX1_wayLength_49 : decode cX1_wayLength 49 = .ok (.istore_n 3, 1) := by decide +kernel
theorem dX1_wayLength_50 : decode cX1_wayLength 50 = .ok (.iinc 4 1, 3) := by decide +kernel
theorem dX1_wayLength_53 : decode cX1_wayLength 53 = .ok (.goto (-29), 3) := by decide +kernel
theorem dX1_wayLength_56 : decode cX1_wayLength 56 = .ok (.bipush (-3), 2) := by decide +kernel
theorem dX1_wayLength_58 : decode cX1_wayLength 58 = .ok (.ireturn, 1) := by decide +kernel
theorem dX1_targetsOf_0 : decode cX1_targetsOf 0 = .ok (.iconst 0, 1) := by decide +kernel
theorem dX1_targetsOf_1 : decode cX1_targetsOf 1 = .ok (.istore_n 2, 1) := by decide +kernel
theorem dX1_targetsOf_2 : decode cX1_targetsOf 2 = .ok (.iconst 0, 1) := by decide +kernel
theorem dX1_targetsOf_3 : decode cX1_targetsOf 3 = .ok (.istore_n 3, 1) := by decide +kernel
theorem dX1_targetsOf_4 : decode cX1_targetsOf 4 = .ok (.iload_n 3, 1) := by decide +kernel
theorem dX1_targetsOf_5 : decode cX1_targetsOf 5 = .ok (.bipush 16, 2) := by decide +kernel
theorem dX1_targetsOf_7 : decode cX1_targetsOf 7 = .ok (.if_icmp .ge 26, 3) := by decide +kernel
theorem dX1_targetsOf_10 : decode cX1_targetsOf 10 = .ok (.iload_n 1, 1) := by decide +kernel
theorem dX1_targetsOf_11 : decode cX1_targetsOf 11 = .ok (.iload_n 3, 1) := by decide +kernel
theorem dX1_targetsOf_12 : decode cX1_targetsOf 12 = .ok (.invokestatic 44, 3) := by decide +kernel
theorem dX1_targetsOf_15 : decode cX1_targetsOf 15 = .ok (.ifCond .eq 12, 3) := by decide +kernel
theorem dX1_targetsOf_18 : decode cX1_targetsOf 18 = .ok (.iload_n 2, 1) := by decide +kernel
theorem dX1_targetsOf_19 : decode cX1_targetsOf 19 = .ok (.aload_n 0, 1) := by decide +kernel
theorem dX1_targetsOf_20 : decode cX1_targetsOf 20 = .ok (.getfield 15, 3) := by decide +kernel
theorem dX1_targetsOf_23 : decode cX1_targetsOf 23 = .ok (.iload_n 3, 1) := by decide +kernel
theorem dX1_targetsOf_24 : decode cX1_targetsOf 24 = .ok (.iaload, 1) := by decide +kernel
theorem dX1_targetsOf_25 : decode cX1_targetsOf 25 = .ok (.ior, 1) := by decide +kernel
theorem dX1_targetsOf_26 : decode cX1_targetsOf 26 = .ok (.istore_n 2, 1) := by decide +kernel
theorem dX1_targetsOf_27 : decode cX1_targetsOf 27 = .ok (.iinc 3 1, 3) := by decide +kernel
theorem dX1_targetsOf_30 : decode cX1_targetsOf 30 = .ok (.goto (-26), 3) := by decide +kernel
theorem dX1_targetsOf_33 : decode cX1_targetsOf 33 = .ok (.iload_n 2, 1) := by decide +kernel
theorem dX1_targetsOf_34 : decode cX1_targetsOf 34 = .ok (.ireturn, 1) := by decide +kernel
theorem dX1_closeReach_0 : decode cX1_closeReach 0 = .ok (.iconst 0, 1) := by decide +kernel
theorem dX1_closeReach_1 : decode cX1_closeReach 1 = .ok (.istore_n 1, 1) := by decide +kernel
theorem dX1_closeReach_2 : decode cX1_closeReach 2 = .ok (.iload_n 1, 1) := by decide +kernel
theorem dX1_closeReach_3 : decode cX1_closeReach 3 = .ok (.bipush 16, 2) := by decide +kernel
theorem dX1_closeReach_5 : decode cX1_closeReach 5 = .ok (.if_icmp .ge 25, 3) := by decide +kernel
theorem dX1_closeReach_8 : decode cX1_closeReach 8 = .ok (.aload_n 0, 1) := by decide +kernel
theorem dX1_closeReach_9 : decode cX1_closeReach 9 = .ok (.getfield 22, 3) := by decide +kernel
theorem dX1_closeReach_12 : decode cX1_closeReach 12 = .ok (.iload_n 1, 1) := by decide +kernel
theorem dX1_closeReach_13 : decode cX1_closeReach 13 = .ok (.aload_n 0, 1) := by decide +kernel
theorem dX1_closeReach_14 : decode cX1_closeReach 14 = .ok (.getfield 15, 3) := by decide +kernel
theorem dX1_closeReach_17 : decode cX1_closeReach 17 = .ok (.iload_n 1, 1) := by decide +kernel
theorem dX1_closeReach_18 : decode cX1_closeReach 18 = .ok (.iaload, 1) := by decide +kernel
theorem dX1_closeReach_19 : decode cX1_closeReach 19 = .ok (.iconst 1, 1) := by decide +kernel
theorem dX1_closeReach_20 : decode cX1_closeReach 20 = .ok (.iload_n 1, 1) := by decide +kernel
theorem dX1_closeReach_21 : decode cX1_closeReach 21 = .ok (.ishl, 1) := by decide +kernel
theorem dX1_closeReach_22 : decode cX1_closeReach 22 = .ok (.ior, 1) := by decide +kernel
theorem dX1_closeReach_23 : decode cX1_closeReach 23 = .ok (.iastore, 1) := by decide +kernel
theorem dX1_closeReach_24 : decode cX1_closeReach 24 = .ok (.iinc 1 1, 3) := by decide +kernel
theorem dX1_closeReach_27 : decode cX1_closeReach 27 = .ok (.goto (-25), 3) := by decide +kernel
theorem dX1_closeReach_30 : decode cX1_closeReach 30 = .ok (.iconst 0, 1) := by decide +kernel
theorem dX1_closeReach_31 : decode cX1_closeReach 31 = .ok (.istore_n 1, 1) := by decide +kernel
theorem dX1_closeReach_32 : decode cX1_closeReach 32 = .ok (.iload_n 1, 1) := by decide +kernel
theorem dX1_closeReach_33 : decode cX1_closeReach 33 = .ok (.bipush 16, 2) := by decide +kernel
theorem dX1_closeReach_35 : decode cX1_closeReach 35 = .ok (.if_icmp .ge 51, 3) := by decide +kernel
theorem dX1_closeReach_38 : decode cX1_closeReach 38 = .ok (.iconst 0, 1) := by decide +kernel
theorem dX1_closeReach_39 : decode cX1_closeReach 39 = .ok (.istore_n 2, 1) := by decide +kernel
theorem dX1_closeReach_40 : decode cX1_closeReach 40 = .ok (.iload_n 2, 1) := by decide +kernel
theorem dX1_closeReach_41 : decode cX1_closeReach 41 = .ok (.bipush 16, 2) := by decide +kernel
theorem dX1_closeReach_43 : decode cX1_closeReach 43 = .ok (.if_icmp .ge 37, 3) := by decide +kernel
theorem dX1_closeReach_46 : decode cX1_closeReach 46 = .ok (.aload_n 0, 1) := by decide +kernel
theorem dX1_closeReach_47 : decode cX1_closeReach 47 = .ok (.getfield 22, 3) := by decide +kernel
theorem dX1_closeReach_50 : decode cX1_closeReach 50 = .ok (.iload_n 2, 1) := by decide +kernel
theorem dX1_closeReach_51 : decode cX1_closeReach 51 = .ok (.iaload, 1) := by decide +kernel
theorem dX1_closeReach_52 : decode cX1_closeReach 52 = .ok (.iload_n 1, 1) := by decide +kernel
theorem dX1_closeReach_53 : decode cX1_closeReach 53 = .ok (.invokestatic 44, 3) := by decide +kernel
theorem dX1_closeReach_56 : decode cX1_closeReach 56 = .ok (.ifCond .eq 18, 3) := by decide +kernel
theorem dX1_closeReach_59 : decode cX1_closeReach 59 = .ok (.aload_n 0, 1) := by decide +kernel
theorem dX1_closeReach_60 : decode cX1_closeReach 60 = .ok (.getfield 22, 3) := by decide +kernel
theorem dX1_closeReach_63 : decode cX1_closeReach 63 = .ok (.iload_n 2, 1) := by decide +kernel
theorem dX1_closeReach_64 : decode cX1_closeReach 64 = .ok (.dup2, 1) := by decide +kernel
theorem dX1_closeReach_65 : decode cX1_closeReach 65 = .ok (.iaload, 1) := by decide +kernel
theorem dX1_closeReach_66 : decode cX1_closeReach 66 = .ok (.aload_n 0, 1) := by decide +kernel
theorem dX1_closeReach_67 : decode cX1_closeReach 67 = .ok (.getfield 22, 3) := by decide +kernel
theorem dX1_closeReach_70 : decode cX1_closeReach 70 = .ok (.iload_n 1, 1) := by decide +kernel
theorem dX1_closeReach_71 : decode cX1_closeReach 71 = .ok (.iaload, 1) := by decide +kernel
theorem dX1_closeReach_72 : decode cX1_closeReach 72 = .ok (.ior, 1) := by decide +kernel
theorem dX1_closeReach_73 : decode cX1_closeReach 73 = .ok (.iastore, 1) := by decide +kernel
theorem dX1_closeReach_74 : decode cX1_closeReach 74 = .ok (.iinc 2 1, 3) := by decide +kernel
theorem dX1_closeReach_77 : decode cX1_closeReach 77 = .ok (.goto (-37), 3) := by decide +kernel
theorem dX1_closeReach_80 : decode cX1_closeReach 80 = .ok (.iinc 1 1, 3) := by decide +kernel
theorem dX1_closeReach_83 : decode cX1_closeReach 83 = .ok (.goto (-51), 3) := by decide +kernel
theorem dX1_closeReach_86 : decode cX1_closeReach 86 = .ok (.return_, 1) := by decide +kernel
theorem dX1_leastOfRing_0 : decode cX1_leastOfRing 0 = .ok (.iload_n 1, 1) := by decide +kernel
theorem dX1_leastOfRing_1 : decode cX1_leastOfRing 1 = .ok (.invokestatic 52, 3) := by decide +kernel
theorem dX1_leastOfRing_4 : decode cX1_leastOfRing 4 = .ok (.ifCond .ne 5, 3) := by decide +kernel
theorem dX1_leastOfRing_7 : decode cX1_leastOfRing 7 = .ok (.iconst 0, 1) := by decide +kernel
theorem dX1_leastOfRing_8 : decode cX1_leastOfRing 8 = .ok (.ireturn, 1) := by decide +kernel
theorem dX1_leastOfRing_9 : decode cX1_leastOfRing 9 = .ok (.iconst 0, 1) := by decide +kernel
theorem dX1_leastOfRing_10 : decode cX1_leastOfRing 10 = .ok (.istore_n 2, 1) := by decide +kernel
theorem dX1_leastOfRing_11 : decode cX1_leastOfRing 11 = .ok (.iload_n 2, 1) := by decide +kernel
theorem dX1_leastOfRing_12 : decode cX1_leastOfRing 12 = .ok (.iload_n 1, 1) := by decide +kernel
theorem dX1_leastOfRing_13 : decode cX1_leastOfRing 13 = .ok (.if_icmp .ge 37, 3) := by decide +kernel
theorem dX1_leastOfRing_16 : decode cX1_leastOfRing 16 = .ok (.aload_n 0, 1) := by decide +kernel
theorem dX1_leastOfRing_17 : decode cX1_leastOfRing 17 = .ok (.getfield 22, 3) := by decide +kernel
theorem dX1_leastOfRing_20 : decode cX1_leastOfRing 20 = .ok (.iload_n 1, 1) := by decide +kernel
theorem dX1_leastOfRing_21 : decode cX1_leastOfRing 21 = .ok (.iaload, 1) := by decide +kernel
theorem dX1_leastOfRing_22 : decode cX1_leastOfRing 22 = .ok (.iload_n 2, 1) := by decide +kernel
theorem dX1_leastOfRing_23 : decode cX1_leastOfRing 23 = .ok (.invokestatic 44, 3) := by decide +kernel
theorem dX1_leastOfRing_26 : decode cX1_leastOfRing 26 = .ok (.ifCond .eq 18, 3) := by decide +kernel
theorem dX1_leastOfRing_29 : decode cX1_leastOfRing 29 = .ok (.aload_n 0, 1) := by decide +kernel
theorem dX1_leastOfRing_30 : decode cX1_leastOfRing 30 = .ok (.getfield 22, 3) := by decide +kernel
theorem dX1_leastOfRing_33 : decode cX1_leastOfRing 33 = .ok (.iload_n 2, 1) := by decide +kernel
theorem dX1_leastOfRing_34 : decode cX1_leastOfRing 34 = .ok (.iaload, 1) := by decide +kernel
theorem dX1_leastOfRing_35 : decode cX1_leastOfRing 35 = .ok (.iload_n 1, 1) := by decide +kernel
theorem dX1_leastOfRing_36 : decode cX1_leastOfRing 36 = .ok (.invokestatic 44, 3) := by decide +kernel
theorem dX1_leastOfRing_39 : decode cX1_leastOfRing 39 = .ok (.ifCond .eq 5, 3) := by decide +kernel
theorem dX1_leastOfRing_42 : decode cX1_leastOfRing 42 = .ok (.iload_n 2, 1) := by decide +kernel
theorem dX1_leastOfRing_43 : decode cX1_leastOfRing 43 = .ok (.ireturn, 1) := by decide +kernel
theorem dX1_leastOfRing_44 : decode cX1_leastOfRing 44 = .ok (.iinc 2 1, 3) := by decide +kernel
theorem dX1_leastOfRing_47 : decode cX1_leastOfRing 47 = .ok (.goto (-36), 3) := by decide +kernel
theorem dX1_leastOfRing_50 : decode cX1_leastOfRing 50 = .ok (.iload_n 1, 1) := by decide +kernel
theorem dX1_leastOfRing_51 : decode cX1_leastOfRing 51 = .ok (.ireturn, 1) := by decide +kernel
theorem dX1_ringsBelow_0 : decode cX1_ringsBelow 0 = .ok (.iconst 0, 1) := by decide +kernel
theorem dX1_ringsBelow_1 : decode cX1_ringsBelow 1 = .ok (.istore_n 2, 1) := by decide +kernel
theorem dX1_ringsBelow_2 : decode cX1_ringsBelow 2 = .ok (.iconst 0, 1) := by decide +kernel
theorem dX1_ringsBelow_3 : decode cX1_ringsBelow 3 = .ok (.istore_n 3, 1) := by decide +kernel
theorem dX1_ringsBelow_4 : decode cX1_ringsBelow 4 = .ok (.iload_n 3, 1) := by decide +kernel
theorem dX1_ringsBelow_5 : decode cX1_ringsBelow 5 = .ok (.bipush 16, 2) := by decide +kernel
theorem dX1_ringsBelow_7 : decode cX1_ringsBelow 7 = .ok (.if_icmp .ge 26, 3) := by decide +kernel
theorem dX1_ringsBelow_10 : decode cX1_ringsBelow 10 = .ok (.iload_n 3, 1) := by decide +kernel
theorem dX1_ringsBelow_11 : decode cX1_ringsBelow 11 = .ok (.iload_n 1, 1) := by decide +kernel
theorem dX1_ringsBelow_12 : decode cX1_ringsBelow 12 = .ok (.if_icmp .ge 21, 3) := by decide +kernel
theorem dX1_ringsBelow_15 : decode cX1_ringsBelow 15 = .ok (.aload_n 0, 1) := by decide +kernel
theorem dX1_ringsBelow_16 : decode cX1_ringsBelow 16 = .ok (.iload_n 3, 1) := by decide +kernel
theorem dX1_ringsBelow_17 : decode cX1_ringsBelow 17 = .ok (.invokevirtual 66, 3) := by decide +kernel
theorem dX1_ringsBelow_20 : decode cX1_ringsBelow 20 = .ok (.iload_n 3, 1) := by decide +kernel
theorem dX1_ringsBelow_21 : decode cX1_ringsBelow 21 = .ok (.if_icmp .ne 6, 3) := by decide +kernel
theorem dX1_ringsBelow_24 : decode cX1_ringsBelow 24 = .ok (.iinc 2 1, 3) := by decide +kernel
theorem dX1_ringsBelow_27 : decode cX1_ringsBelow 27 = .ok (.iinc 3 1, 3) := by decide +kernel
theorem dX1_ringsBelow_30 : decode cX1_ringsBelow 30 = .ok (.goto (-26), 3) := by decide +kernel
theorem dX1_ringsBelow_33 : decode cX1_ringsBelow 33 = .ok (.iload_n 2, 1) := by decide +kernel
theorem dX1_ringsBelow_34 : decode cX1_ringsBelow 34 = .ok (.ireturn, 1) := by decide +kernel
theorem dX1_sortInto_0 : decode cX1_sortInto 0 = .ok (.aload_n 1, 1) := by decide +kernel
theorem dX1_sortInto_1 : decode cX1_sortInto 1 = .ok (.invokevirtual 69, 3) := by decide +kernel
theorem dX1_sortInto_4 : decode cX1_sortInto 4 = .ok (.aload_n 0, 1) := by decide +kernel
theorem dX1_sortInto_5 : decode cX1_sortInto 5 = .ok (.invokevirtual 74, 3) := by decide +kernel
theorem dX1_sortInto_8 : decode cX1_sortInto 8 = .ok (.istore_n 2, 1) := by decide +kernel
theorem dX1_sortInto_9 : decode cX1_sortInto 9 = .ok (.iconst 0, 1) := by decide +kernel
theorem dX1_sortInto_10 : decode cX1_sortInto 10 = .ok (.istore_n 3, 1) := by decide +kernel
theorem dX1_sortInto_11 : decode cX1_sortInto 11 = .ok (.iload_n 3, 1) := by decide +kernel
theorem dX1_sortInto_12 : decode cX1_sortInto 12 = .ok (.bipush 16, 2) := by decide +kernel
theorem dX1_sortInto_14 : decode cX1_sortInto 14 = .ok (.if_icmp .ge 46, 3) := by decide +kernel
theorem dX1_sortInto_17 : decode cX1_sortInto 17 = .ok (.iload_n 3, 1) := by decide +kernel
theorem dX1_sortInto_18 : decode cX1_sortInto 18 = .ok (.aload_n 0, 1) := by decide +kernel
theorem dX1_sortInto_19 : decode cX1_sortInto 19 = .ok (.getfield 9, 3) := by decide +kernel
theorem dX1_sortInto_22 : decode cX1_sortInto 22 = .ok (.if_icmp .ge 38, 3) := by decide +kernel
theorem dX1_sortInto_25 : decode cX1_sortInto 25 = .ok (.aload_n 0, 1) := by decide +kernel
theorem dX1_sortInto_26 : decode cX1_sortInto 26 = .ok (.iload_n 2, 1) := by decide +kernel
theorem dX1_sortInto_27 : decode cX1_sortInto 27 = .ok (.invokevirtual 78, 3) := by decide +kernel
theorem dX1_sortInto_30 : decode cX1_sortInto 30 = .ok (.istore 4, 2) := by decide +kernel
theorem dX1_sortInto_32 : decode cX1_sortInto 32 = .ok (.iload 4, 2) := by decide +kernel
theorem dX1_sortInto_34 : decode cX1_sortInto 34 = .ok (.ifCond .ge 5, 3) := by decide +kernel
theorem dX1_sortInto_37 : decode cX1_sortInto 37 = .ok (.iconst 0, 1) := by decide +kernel
theorem dX1_sortInto_38 : decode cX1_sortInto 38 = .ok (.ireturn, 1) := by decide +kernel
theorem dX1_sortInto_39 : decode cX1_sortInto 39 = .ok (.aload_n 1, 1) := by decide +kernel
theorem dX1_sortInto_40 : decode cX1_sortInto 40 = .ok (.iload 4, 2) := by decide +kernel
theorem dX1_sortInto_42 : decode cX1_sortInto 42 = .ok (.invokevirtual 81, 3) := by decide +kernel
theorem dX1_sortInto_45 : decode cX1_sortInto 45 = .ok (.iload_n 2, 1) := by decide +kernel
theorem dX1_sortInto_46 : decode cX1_sortInto 46 = .ok (.iconst 1, 1) := by decide +kernel
theorem dX1_sortInto_47 : decode cX1_sortInto 47 = .ok (.iload 4, 2) := by decide +kernel
theorem dX1_sortInto_49 : decode cX1_sortInto 49 = .ok (.ishl, 1) := by decide +kernel
theorem dX1_sortInto_50 : decode cX1_sortInto 50 = .ok (.iconst (-1), 1) := by decide +kernel
theorem dX1_sortInto_51 : decode cX1_sortInto 51 = .ok (.ixor, 1) := by decide +kernel
theorem dX1_sortInto_52 : decode cX1_sortInto 52 = .ok (.iand, 1) := by decide +kernel
theorem dX1_sortInto_53 : decode cX1_sortInto 53 = .ok (.istore_n 2, 1) := by decide +kernel
theorem dX1_sortInto_54 : decode cX1_sortInto 54 = .ok (.iinc 3 1, 3) := by decide +kernel
theorem dX1_sortInto_57 : decode cX1_sortInto 57 = .ok (.goto (-46), 3) := by decide +kernel
theorem dX1_sortInto_60 : decode cX1_sortInto 60 = .ok (.iconst 1, 1) := by decide +kernel
theorem dX1_sortInto_61 : decode cX1_sortInto 61 = .ok (.ireturn, 1) := by decide +kernel
theorem dX1_leastWithoutSource_0 : decode cX1_leastWithoutSource 0 = .ok (.iconst 0, 1) := by decide +kernel
theorem dX1_leastWithoutSource_1 : decode cX1_leastWithoutSource 1 = .ok (.istore_n 2, 1) := by decide +kernel
theorem dX1_leastWithoutSource_2 : decode cX1_leastWithoutSource 2 = .ok (.iload_n 2, 1) := by decide +kernel
theorem dX1_leastWithoutSource_3 : decode cX1_leastWithoutSource 3 = .ok (.bipush 16, 2) := by decide +kernel
theorem dX1_leastWithoutSource_5 : decode cX1_leastWithoutSource 5 = .ok (.if_icmp .ge 37, 3) := by decide +kernel
theorem dX1_leastWithoutSource_8 : decode cX1_leastWithoutSource 8 = .ok (.iload_n 1, 1) := by decide +kernel
theorem dX1_leastWithoutSource_9 : decode cX1_leastWithoutSource 9 = .ok (.iconst 1, 1) := by decide +kernel
theorem dX1_leastWithoutSource_10 : decode cX1_leastWithoutSource 10 = .ok (.iload_n 2, 1) := by decide +kernel
theorem dX1_leastWithoutSource_11 : decode cX1_leastWithoutSource 11 = .ok (.ishl, 1) := by decide +kernel
theorem dX1_leastWithoutSource_12 : decode cX1_leastWithoutSource 12 = .ok (.iconst (-1), 1) := by decide +kernel
theorem dX1_leastWithoutSource_13 : decode cX1_leastWithoutSource 13 = .ok (.ixor, 1) := by decide +kernel
theorem dX1_leastWithoutSource_14 : decode cX1_leastWithoutSource 14 = .ok (.iand, 1) := by decide +kernel
theorem dX1_leastWithoutSource_15 : decode cX1_leastWithoutSource 15 = .ok (.istore_n 3, 1) := by decide +kernel
theorem dX1_leastWithoutSource_16 : decode cX1_leastWithoutSource 16 = .ok (.iload_n 1, 1) := by decide +kernel
theorem dX1_leastWithoutSource_17 : decode cX1_leastWithoutSource 17 = .ok (.iload_n 2, 1) := by decide +kernel
theorem dX1_leastWithoutSource_18 : decode cX1_leastWithoutSource 18 = .ok (.invokestatic 44, 3) := by decide +kernel
theorem dX1_leastWithoutSource_21 : decode cX1_leastWithoutSource 21 = .ok (.ifCond .eq 15, 3) := by decide +kernel
theorem dX1_leastWithoutSource_24 : decode cX1_leastWithoutSource 24 = .ok (.aload_n 0, 1) := by decide +kernel
theorem dX1_leastWithoutSource_25 : decode cX1_leastWithoutSource 25 = .ok (.iload_n 2, 1) := by decide +kernel
theorem dX1_leastWithoutSource_26 : decode cX1_leastWithoutSource 26 = .ok (.invokevirtual 41, 3) := by decide +kernel
theorem dX1_leastWithoutSource_29 : decode cX1_leastWithoutSource 29 = .ok (.iload_n 3, 1) := by decide +kernel
theorem dX1_leastWithoutSource_30 : decode cX1_leastWithoutSource 30 = .ok (.iand, 1) := by decide +kernel
theorem dX1_leastWithoutSource_31 : decode cX1_leastWithoutSource 31 = .ok (.ifCond .ne 5, 3) := by decide +kernel
theorem dX1_leastWithoutSource_34 : decode cX1_leastWithoutSource 34 = .ok (.iload_n 2, 1) := by decide +kernel
theorem dX1_leastWithoutSource_35 : decode cX1_leastWithoutSource 35 = .ok (.ireturn, 1) := by decide +kernel
theorem dX1_leastWithoutSource_36 : decode cX1_leastWithoutSource 36 = .ok (.iinc 2 1, 3) := by decide +kernel
theorem dX1_leastWithoutSource_39 : decode cX1_leastWithoutSource 39 = .ok (.goto (-37), 3) := by decide +kernel
theorem dX1_leastWithoutSource_42 : decode cX1_leastWithoutSource 42 = .ok (.iconst (-1), 1) := by decide +kernel
theorem dX1_leastWithoutSource_43 : decode cX1_leastWithoutSource 43 = .ok (.ireturn, 1) := by decide +kernel
theorem dX1_narrowInto_0 : decode cX1_narrowInto 0 = .ok (.aload_n 1, 1) := by decide +kernel
theorem dX1_narrowInto_1 : decode cX1_narrowInto 1 = .ok (.invokevirtual 69, 3) := by decide +kernel
theorem dX1_narrowInto_4 : decode cX1_narrowInto 4 = .ok (.aload_n 0, 1) := by decide +kernel
theorem dX1_narrowInto_5 : decode cX1_narrowInto 5 = .ok (.invokevirtual 74, 3) := by decide +kernel
theorem dX1_narrowInto_8 : decode cX1_narrowInto 8 = .ok (.istore_n 2, 1) := by decide +kernel
theorem dX1_narrowInto_9 : decode cX1_narrowInto 9 = .ok (.iconst 0, 1) := by decide +kernel
theorem dX1_narrowInto_10 : decode cX1_narrowInto 10 = .ok (.istore_n 3, 1) := by decide +kernel
theorem dX1_narrowInto_11 : decode cX1_narrowInto 11 = .ok (.iload_n 3, 1) := by decide +kernel
theorem dX1_narrowInto_12 : decode cX1_narrowInto 12 = .ok (.bipush 16, 2) := by decide +kernel
theorem dX1_narrowInto_14 : decode cX1_narrowInto 14 = .ok (.if_icmp .ge 55, 3) := by decide +kernel
theorem dX1_narrowInto_17 : decode cX1_narrowInto 17 = .ok (.iload_n 3, 1) := by decide +kernel
theorem dX1_narrowInto_18 : decode cX1_narrowInto 18 = .ok (.aload_n 0, 1) := by decide +kernel
theorem dX1_narrowInto_19 : decode cX1_narrowInto 19 = .ok (.getfield 9, 3) := by decide +kernel
theorem dX1_narrowInto_22 : decode cX1_narrowInto 22 = .ok (.if_icmp .ge 47, 3) := by decide +kernel
theorem dX1_narrowInto_25 : decode cX1_narrowInto 25 = .ok (.iload_n 3, 1) := by decide +kernel
theorem dX1_narrowInto_26 : decode cX1_narrowInto 26 = .ok (.aload_n 1, 1) := by decide +kernel
theorem dX1_narrowInto_27 : decode cX1_narrowInto 27 = .ok (.getfield 85, 3) := by decide +kernel
theorem dX1_narrowInto_30 : decode cX1_narrowInto 30 = .ok (.if_icmp .ne 11, 3) := by decide +kernel
theorem dX1_narrowInto_33 : decode cX1_narrowInto 33 = .ok (.aload_n 0, 1) := by decide +kernel
theorem dX1_narrowInto_34 : decode cX1_narrowInto 34 = .ok (.iload_n 2, 1) := by decide +kernel
theorem dX1_narrowInto_35 : decode cX1_narrowInto 35 = .ok (.iload_n 2, 1) := by decide +kernel
theorem dX1_narrowInto_36 : decode cX1_narrowInto 36 = .ok (.aload_n 1, 1) := by decide +kernel
theorem dX1_narrowInto_37 : decode cX1_narrowInto 37 = .ok (.invokevirtual 88, 3) := by decide +kernel
theorem dX1_narrowInto_40 : decode cX1_narrowInto 40 = .ok (.istore_n 2, 1) := by decide +kernel
theorem dX1_narrowInto_41 : decode cX1_narrowInto 41 = .ok (.aload_n 0, 1) := by decide +kernel
theorem dX1_narrowInto_42 : decode cX1_narrowInto 42 = .ok (.aload_n 1, 1) := by decide +kernel
theorem dX1_narrowInto_43 : decode cX1_narrowInto 43 = .ok (.iload_n 3, 1) := by decide +kernel
theorem dX1_narrowInto_44 : decode cX1_narrowInto 44 = .ok (.invokevirtual 92, 3) := by decide +kernel
theorem dX1_narrowInto_47 : decode cX1_narrowInto 47 = .ok (.invokevirtual 95, 3) := by decide +kernel
theorem dX1_narrowInto_50 : decode cX1_narrowInto 50 = .ok (.iload_n 2, 1) := by decide +kernel
theorem dX1_narrowInto_51 : decode cX1_narrowInto 51 = .ok (.iand, 1) := by decide +kernel
theorem dX1_narrowInto_52 : decode cX1_narrowInto 52 = .ok (.istore 4, 2) := by decide +kernel
theorem dX1_narrowInto_54 : decode cX1_narrowInto 54 = .ok (.aload_n 0, 1) := by decide +kernel
theorem dX1_narrowInto_55 : decode cX1_narrowInto 55 = .ok (.iload 4, 2) := by decide +kernel
theorem dX1_narrowInto_57 : decode cX1_narrowInto 57 = .ok (.iload_n 2, 1) := by decide +kernel
theorem dX1_narrowInto_58 : decode cX1_narrowInto 58 = .ok (.aload_n 1, 1) := by decide +kernel
theorem dX1_narrowInto_59 : decode cX1_narrowInto 59 = .ok (.invokevirtual 98, 3) := by decide +kernel
theorem dX1_narrowInto_62 : decode cX1_narrowInto 62 = .ok (.istore_n 2, 1) := by decide +kernel
theorem dX1_narrowInto_63 : decode cX1_narrowInto 63 = .ok (.iinc 3 1, 3) := by decide +kernel
theorem dX1_narrowInto_66 : decode cX1_narrowInto 66 = .ok (.goto (-55), 3) := by decide +kernel
theorem dX1_narrowInto_69 : decode cX1_narrowInto 69 = .ok (.return_, 1) := by decide +kernel
theorem dX1_moveAll_0 : decode cX1_moveAll 0 = .ok (.iload_n 2, 1) := by decide +kernel
theorem dX1_moveAll_1 : decode cX1_moveAll 1 = .ok (.istore 4, 2) := by decide +kernel
theorem dX1_moveAll_3 : decode cX1_moveAll 3 = .ok (.iconst 0, 1) := by decide +kernel
theorem dX1_moveAll_4 : decode cX1_moveAll 4 = .ok (.istore 5, 2) := by decide +kernel
theorem dX1_moveAll_6 : decode cX1_moveAll 6 = .ok (.iload 5, 2) := by decide +kernel
theorem dX1_moveAll_8 : decode cX1_moveAll 8 = .ok (.bipush 16, 2) := by decide +kernel
theorem dX1_moveAll_10 : decode cX1_moveAll 10 = .ok (.if_icmp .ge 29, 3) := by decide +kernel
theorem dX1_moveAll_13 : decode cX1_moveAll 13 = .ok (.iload_n 1, 1) := by decide +kernel
theorem dX1_moveAll_14 : decode cX1_moveAll 14 = .ok (.iload 4, 2) := by decide +kernel
theorem dX1_moveAll_16 : decode cX1_moveAll 16 = .ok (.iand, 1) := by decide +kernel
theorem dX1_moveAll_17 : decode cX1_moveAll 17 = .ok (.ifCond .eq 22, 3) := by decide +kernel
theorem dX1_moveAll_20 : decode cX1_moveAll 20 = .ok (.aload_n 0, 1) := by decide +kernel
theorem dX1_moveAll_21 : decode cX1_moveAll 21 = .ok (.iload_n 1, 1) := by decide +kernel
theorem dX1_moveAll_22 : decode cX1_moveAll 22 = .ok (.iload 4, 2) := by decide +kernel
theorem dX1_moveAll_24 : decode cX1_moveAll 24 = .ok (.iand, 1) := by decide +kernel
theorem dX1_moveAll_25 : decode cX1_moveAll 25 = .ok (.iload 4, 2) := by decide +kernel
theorem dX1_moveAll_27 : decode cX1_moveAll 27 = .ok (.aload_n 3, 1) := by decide +kernel
theorem dX1_moveAll_28 : decode cX1_moveAll 28 = .ok (.invokevirtual 88, 3) := by decide +kernel
theorem dX1_moveAll_31 : decode cX1_moveAll 31 = .ok (.istore 4, 2) := by decide +kernel
theorem dX1_moveAll_33 : decode cX1_moveAll 33 = .ok (.iinc 5 1, 3) := by decide +kernel
theorem dX1_moveAll_36 : decode cX1_moveAll 36 = .ok (.goto (-30), 3) := by decide +kernel
theorem dX1_moveAll_39 : decode cX1_moveAll 39 = .ok (.iload 4, 2) := by decide +kernel
theorem dX1_moveAll_41 : decode cX1_moveAll 41 = .ok (.ireturn, 1) := by decide +kernel
theorem dX1_moveFewest_0 : decode cX1_moveFewest 0 = .ok (.iconst (-1), 1) := by decide +kernel
theorem dX1_moveFewest_1 : decode cX1_moveFewest 1 = .ok (.istore 4, 2) := by decide +kernel
theorem dX1_moveFewest_3 : decode cX1_moveFewest 3 = .ok (.bipush 16, 2) := by decide +kernel
theorem dX1_moveFewest_5 : decode cX1_moveFewest 5 = .ok (.istore 5, 2) := by decide +kernel
theorem dX1_moveFewest_7 : decode cX1_moveFewest 7 = .ok (.iconst 0, 1) := by decide +kernel
theorem dX1_moveFewest_8 : decode cX1_moveFewest 8 = .ok (.istore 6, 2) := by decide +kernel
theorem dX1_moveFewest_10 : decode cX1_moveFewest 10 = .ok (.iload 6, 2) := by decide +kernel
theorem dX1_moveFewest_12 : decode cX1_moveFewest 12 = .ok (.bipush 16, 2) := by decide +kernel
theorem dX1_moveFewest_14 : decode cX1_moveFewest 14 = .ok (.if_icmp .ge 45, 3) := by decide +kernel
theorem dX1_moveFewest_17 : decode cX1_moveFewest 17 = .ok (.aload_n 0, 1) := by decide +kernel
theorem dX1_moveFewest_18 : decode cX1_moveFewest 18 = .ok (.getfield 19, 3) := by decide +kernel
theorem dX1_moveFewest_21 : decode cX1_moveFewest 21 = .ok (.iload 6, 2) := by decide +kernel
theorem dX1_moveFewest_23 : decode cX1_moveFewest 23 = .ok (.iaload, 1) := by decide +kernel
theorem dX1_moveFewest_24 : decode cX1_moveFewest 24 = .ok (.invokestatic 101, 3) := by decide +kernel
theorem dX1_moveFewest_27 : decode cX1_moveFewest 27 = .ok (.istore 7, 2) := by decide +kernel
theorem dX1_moveFewest_29 : decode cX1_moveFewest 29 = .ok (.iload_n 1, 1) := by decide +kernel
theorem dX1_moveFewest_30 : decode cX1_moveFewest 30 = .ok (.iload 6, 2) := by decide +kernel
theorem dX1_moveFewest_32 : decode cX1_moveFewest 32 = .ok (.invokestatic 44, 3) := by decide +kernel
theorem dX1_moveFewest_35 : decode cX1_moveFewest 35 = .ok (.ifCond .eq 18, 3) := by decide +kernel
theorem dX1_moveFewest_38 : decode cX1_moveFewest 38 = .ok (.iload 7, 2) := by decide +kernel
theorem dX1_moveFewest_40 : decode cX1_moveFewest 40 = .ok (.iload 5, 2) := by decide +kernel
theorem dX1_moveFewest_42 : decode cX1_moveFewest 42 = .ok (.if_icmp .ge 11, 3) := by decide +kernel
theorem dX1_moveFewest_45 : decode cX1_moveFewest 45 = .ok (.iload 6, 2) := by decide +kernel
theorem dX1_moveFewest_47 : decode cX1_moveFewest 47 = .ok (.istore 4, 2) := by decide +kernel
theorem dX1_moveFewest_49 : decode cX1_moveFewest 49 = .ok (.iload 7, 2) := by decide +kernel
theorem dX1_moveFewest_51 : decode cX1_moveFewest 51 = .ok (.istore 5, 2) := by decide +kernel
theorem dX1_moveFewest_53 : decode cX1_moveFewest 53 = .ok (.iinc 6 1, 3) := by decide +kernel
theorem dX1_moveFewest_56 : decode cX1_moveFewest 56 = .ok (.goto (-46), 3) := by decide +kernel
theorem dX1_moveFewest_59 : decode cX1_moveFewest 59 = .ok (.iload 4, 2) := by decide +kernel
theorem dX1_moveFewest_61 : decode cX1_moveFewest 61 = .ok (.ifCond .ge 5, 3) := by decide +kernel
theorem dX1_moveFewest_64 : decode cX1_moveFewest 64 = .ok (.iload_n 2, 1) := by decide +kernel
theorem dX1_moveFewest_65 : decode cX1_moveFewest 65 = .ok (.ireturn, 1) := by decide +kernel
theorem dX1_moveFewest_66 : decode cX1_moveFewest 66 = .ok (.aload_n 3, 1) := by decide +kernel
theorem dX1_moveFewest_67 : decode cX1_moveFewest 67 = .ok (.iload 4, 2) := by decide +kernel
theorem dX1_moveFewest_69 : decode cX1_moveFewest 69 = .ok (.invokevirtual 81, 3) := by decide +kernel
theorem dX1_moveFewest_72 : decode cX1_moveFewest 72 = .ok (.iload_n 2, 1) := by decide +kernel
theorem dX1_moveFewest_73 : decode cX1_moveFewest 73 = .ok (.iconst 1, 1) := by decide +kernel
theorem dX1_moveFewest_74 : decode cX1_moveFewest 74 = .ok (.iload 4, 2) := by decide +kernel
theorem dX1_moveFewest_76 : decode cX1_moveFewest 76 = .ok (.ishl, 1) := by decide +kernel
theorem dX1_moveFewest_77 : decode cX1_moveFewest 77 = .ok (.iconst (-1), 1) := by decide +kernel
theorem dX1_moveFewest_78 : decode cX1_moveFewest 78 = .ok (.ixor, 1) := by decide +kernel
theorem dX1_moveFewest_79 : decode cX1_moveFewest 79 = .ok (.iand, 1) := by decide +kernel
theorem dX1_moveFewest_80 : decode cX1_moveFewest 80 = .ok (.ireturn, 1) := by decide +kernel
theorem dX1_neighboursOf_0 : decode cX1_neighboursOf 0 = .ok (.iload_n 1, 1) := by decide +kernel
theorem dX1_neighboursOf_1 : decode cX1_neighboursOf 1 = .ok (.invokestatic 52, 3) := by decide +kernel
theorem dX1_neighboursOf_4 : decode cX1_neighboursOf 4 = .ok (.ifCond .eq 12, 3) := by decide +kernel
theorem dX1_neighboursOf_7 : decode cX1_neighboursOf 7 = .ok (.aload_n 0, 1) := by decide +kernel
theorem dX1_neighboursOf_8 : decode cX1_neighboursOf 8 = .ok (.getfield 19, 3) := by decide +kernel
theorem dX1_neighboursOf_11 : decode cX1_neighboursOf 11 = .ok (.iload_n 1, 1) := by decide +kernel
theorem dX1_neighboursOf_12 : decode cX1_neighboursOf 12 = .ok (.iaload, 1) := by decide +kernel
theorem dX1_neighboursOf_13 : decode cX1_neighboursOf 13 = .ok (.goto 4, 3) := by decide +kernel
theorem dX1_neighboursOf_16 : decode cX1_neighboursOf 16 = .ok (.iconst 0, 1) := by decide +kernel
theorem dX1_neighboursOf_17 : decode cX1_neighboursOf 17 = .ok (.ireturn, 1) := by decide +kernel
theorem dX1_widthOf_0 : decode cX1_widthOf 0 = .ok (.iconst 0, 1) := by decide +kernel
theorem dX1_widthOf_1 : decode cX1_widthOf 1 = .ok (.istore_n 2, 1) := by decide +kernel
theorem dX1_widthOf_2 : decode cX1_widthOf 2 = .ok (.iconst 0, 1) := by decide +kernel
theorem dX1_widthOf_3 : decode cX1_widthOf 3 = .ok (.istore_n 3, 1) := by decide +kernel
theorem dX1_widthOf_4 : decode cX1_widthOf 4 = .ok (.iload_n 3, 1) := by decide +kernel
theorem dX1_widthOf_5 : decode cX1_widthOf 5 = .ok (.bipush 16, 2) := by decide +kernel
theorem dX1_widthOf_7 : decode cX1_widthOf 7 = .ok (.if_icmp .ge 62, 3) := by decide +kernel
theorem dX1_widthOf_10 : decode cX1_widthOf 10 = .ok (.iload_n 3, 1) := by decide +kernel
theorem dX1_widthOf_11 : decode cX1_widthOf 11 = .ok (.aload_n 1, 1) := by decide +kernel
theorem dX1_widthOf_12 : decode cX1_widthOf 12 = .ok (.getfield 85, 3) := by decide +kernel
theorem dX1_widthOf_15 : decode cX1_widthOf 15 = .ok (.if_icmp .ge 54, 3) := by decide +kernel
theorem dX1_widthOf_18 : decode cX1_widthOf 18 = .ok (.iconst 0, 1) := by decide +kernel
theorem dX1_widthOf_19 : decode cX1_widthOf 19 = .ok (.istore 4, 2) := by decide +kernel
theorem dX1_widthOf_21 : decode cX1_widthOf 21 = .ok (.iload 4, 2) := by decide +kernel
theorem dX1_widthOf_23 : decode cX1_widthOf 23 = .ok (.iload_n 3, 1) := by decide +kernel
theorem dX1_widthOf_24 : decode cX1_widthOf 24 = .ok (.if_icmp .ge 39, 3) := by decide +kernel
theorem dX1_widthOf_27 : decode cX1_widthOf 27 = .ok (.aload_n 0, 1) := by decide +kernel
theorem dX1_widthOf_28 : decode cX1_widthOf 28 = .ok (.aload_n 1, 1) := by decide +kernel
theorem dX1_widthOf_29 : decode cX1_widthOf 29 = .ok (.iload_n 3, 1) := by decide +kernel
theorem dX1_widthOf_30 : decode cX1_widthOf 30 = .ok (.invokevirtual 92, 3) := by decide +kernel
theorem dX1_widthOf_33 : decode cX1_widthOf 33 = .ok (.invokevirtual 95, 3) := by decide +kernel
theorem dX1_widthOf_36 : decode cX1_widthOf 36 = .ok (.aload_n 1, 1) := by decide +kernel
theorem dX1_widthOf_37 : decode cX1_widthOf 37 = .ok (.iload 4, 2) := by decide +kernel
theorem dX1_widthOf_39 : decode cX1_widthOf 39 = .ok (.invokevirtual 92, 3) := by decide +kernel
theorem dX1_widthOf_42 : decode cX1_widthOf 42 = .ok (.invokestatic 44, 3) := by decide +kernel
theorem dX1_widthOf_45 : decode cX1_widthOf 45 = .ok (.ifCond .eq 12, 3) := by decide +kernel
theorem dX1_widthOf_48 : decode cX1_widthOf 48 = .ok (.iload_n 2, 1) := by decide +kernel
theorem dX1_widthOf_49 : decode cX1_widthOf 49 = .ok (.iload_n 3, 1) := by decide +kernel
theorem dX1_widthOf_50 : decode cX1_widthOf 50 = .ok (.iload 4, 2) := by decide +kernel
theorem dX1_widthOf_52 : decode cX1_widthOf 52 = .ok (.isub, 1) := by decide +kernel
theorem dX1_widthOf_53 : decode cX1_widthOf 53 = .ok (.invokestatic 106, 3) := by decide +kernel
theorem dX1_widthOf_56 : decode cX1_widthOf 56 = .ok (.istore_n 2, 1) := by decide +kernel
theorem dX1_widthOf_57 : decode cX1_widthOf 57 = .ok (.iinc 4 1, 3) := by decide +kernel
theorem dX1_widthOf_60 : decode cX1_widthOf 60 = .ok (.goto (-39), 3) := by decide +kernel
theorem dX1_widthOf_63 : decode cX1_widthOf 63 = .ok (.iinc 3 1, 3) := by decide +kernel
theorem dX1_widthOf_66 : decode cX1_widthOf 66 = .ok (.goto (-62), 3) := by decide +kernel
theorem dX1_widthOf_69 : decode cX1_widthOf 69 = .ok (.iload_n 2, 1) := by decide +kernel
theorem dX1_widthOf_70 : decode cX1_widthOf 70 = .ok (.ireturn, 1) := by decide +kernel
theorem dX2_init_0 : decode cX2_init 0 = .ok (.aload_n 0, 1) := by decide +kernel
theorem dX2_init_1 : decode cX2_init 1 = .ok (.invokespecial 3, 3) := by decide +kernel
theorem dX2_init_4 : decode cX2_init 4 = .ok (.aload_n 0, 1) := by decide +kernel
theorem dX2_init_5 : decode cX2_init 5 = .ok (.iconst 0, 1) := by decide +kernel
theorem dX2_init_6 : decode cX2_init 6 = .ok (.putfield 9, 3) := by decide +kernel
theorem dX2_init_9 : decode cX2_init 9 = .ok (.aload_n 0, 1) := by decide +kernel
theorem dX2_init_10 : decode cX2_init 10 = .ok (.iconst 0, 1) := by decide +kernel
theorem dX2_init_11 : decode cX2_init 11 = .ok (.putfield 15, 3) := by decide +kernel
theorem dX2_init_14 : decode cX2_init 14 = .ok (.aload_n 0, 1) := by decide +kernel
theorem dX2_init_15 : decode cX2_init 15 = .ok (.bipush 16, 2) := by decide +kernel
theorem dX2_init_17 : decode cX2_init 17 = .ok (.newarray .int, 2) := by decide +kernel
theorem dX2_init_19 : decode cX2_init 19 = .ok (.putfield 18, 3) := by decide +kernel
theorem dX2_init_22 : decode cX2_init 22 = .ok (.aload_n 0, 1) := by decide +kernel
theorem dX2_init_23 : decode cX2_init 23 = .ok (.sipush 256, 3) := by decide +kernel
theorem dX2_init_26 : decode cX2_init 26 = .ok (.newarray .long, 2) := by decide +kernel
theorem dX2_init_28 : decode cX2_init 28 = .ok (.putfield 22, 3) := by decide +kernel
theorem dX2_init_31 : decode cX2_init 31 = .ok (.return_, 1) := by decide +kernel
theorem dX2_begin_0 : decode cX2_begin 0 = .ok (.aload_n 0, 1) := by decide +kernel
theorem dX2_begin_1 : decode cX2_begin 1 = .ok (.iload_n 1, 1) := by decide +kernel
theorem dX2_begin_2 : decode cX2_begin 2 = .ok (.putfield 9, 3) := by decide +kernel
theorem dX2_begin_5 : decode cX2_begin 5 = .ok (.aload_n 0, 1) := by decide +kernel
theorem dX2_begin_6 : decode cX2_begin 6 = .ok (.iload_n 2, 1) := by decide +kernel
theorem dX2_begin_7 : decode cX2_begin 7 = .ok (.putfield 15, 3) := by decide +kernel
theorem dX2_begin_10 : decode cX2_begin 10 = .ok (.iconst 0, 1) := by decide +kernel
theorem dX2_begin_11 : decode cX2_begin 11 = .ok (.istore_n 3, 1) := by decide +kernel
theorem dX2_begin_12 : decode cX2_begin 12 = .ok (.iload_n 3, 1) := by decide +kernel
theorem dX2_begin_13 : decode cX2_begin 13 = .ok (.bipush 16, 2) := by decide +kernel
theorem dX2_begin_15 : decode cX2_begin 15 = .ok (.if_icmp .ge 16, 3) := by decide +kernel
theorem dX2_begin_18 : decode cX2_begin 18 = .ok (.aload_n 0, 1) := by decide +kernel
theorem dX2_begin_19 : decode cX2_begin 19 = .ok (.getfield 18, 3) := by decide +kernel
theorem dX2_begin_22 : decode cX2_begin 22 = .ok (.iload_n 3, 1) := by decide +kernel
theorem dX2_begin_23 : decode cX2_begin 23 = .ok (.iconst 0, 1) := by decide +kernel
theorem dX2_begin_24 : decode cX2_begin 24 = .ok (.iastore, 1) := by decide +kernel
theorem dX2_begin_25 : decode cX2_begin 25 = .ok (.iinc 3 1, 3) := by decide +kernel
theorem dX2_begin_28 : decode cX2_begin 28 = .ok (.goto (-16), 3) := by decide +kernel
theorem dX2_begin_31 : decode cX2_begin 31 = .ok (.iconst 0, 1) := by decide +kernel
theorem dX2_begin_32 : decode cX2_begin 32 = .ok (.istore_n 3, 1) := by decide +kernel
theorem dX2_begin_33 : decode cX2_begin 33 = .ok (.iload_n 3, 1) := by decide +kernel
theorem dX2_begin_34 : decode cX2_begin 34 = .ok (.sipush 256, 3) := by decide +kernel
theorem dX2_begin_37 : decode cX2_begin 37 = .ok (.if_icmp .ge 16, 3) := by decide +kernel
theorem dX2_begin_40 : decode cX2_begin 40 = .ok (.aload_n 0, 1) := by decide +kernel
theorem dX2_begin_41 : decode cX2_begin 41 = .ok (.getfield 22, 3) := by decide +kernel
theorem dX2_begin_44 : decode cX2_begin 44 = .ok (.iload_n 3, 1) := by decide +kernel
theorem dX2_begin_45 : decode cX2_begin 45 = .ok (.lconst 0, 1) := by decide +kernel
theorem dX2_begin_46 : decode cX2_begin 46 = .ok (.lastore, 1) := by decide +kernel
theorem dX2_begin_47 : decode cX2_begin 47 = .ok (.iinc 3 1, 3) := by decide +kernel
theorem dX2_begin_50 : decode cX2_begin 50 = .ok (.goto (-17), 3) := by decide +kernel
theorem dX2_begin_53 : decode cX2_begin 53 = .ok (.return_, 1) := by decide +kernel
theorem dX2_become_0 : decode cX2_become 0 = .ok (.aload_n 0, 1) := by decide +kernel
theorem dX2_become_1 : decode cX2_become 1 = .ok (.aload_n 1, 1) := by decide +kernel
theorem dX2_become_2 : decode cX2_become 2 = .ok (.getfield 9, 3) := by decide +kernel
theorem dX2_become_5 : decode cX2_become 5 = .ok (.putfield 9, 3) := by decide +kernel
theorem dX2_become_8 : decode cX2_become 8 = .ok (.aload_n 0, 1) := by decide +kernel
theorem dX2_become_9 : decode cX2_become 9 = .ok (.aload_n 1, 1) := by decide +kernel
theorem dX2_become_10 : decode cX2_become 10 = .ok (.getfield 15, 3) := by decide +kernel
theorem dX2_become_13 : decode cX2_become 13 = .ok (.putfield 15, 3) := by decide +kernel
theorem dX2_become_16 : decode cX2_become 16 = .ok (.aload_n 1, 1) := by decide +kernel
theorem dX2_become_17 : decode cX2_become 17 = .ok (.getfield 18, 3) := by decide +kernel
theorem dX2_become_20 : decode cX2_become 20 = .ok (.iconst 0, 1) := by decide +kernel
theorem dX2_become_21 : decode cX2_become 21 = .ok (.aload_n 0, 1) := by decide +kernel
theorem dX2_become_22 : decode cX2_become 22 = .ok (.getfield 18, 3) := by decide +kernel
theorem dX2_become_25 : decode cX2_become 25 = .ok (.iconst 0, 1) := by decide +kernel
theorem dX2_become_26 : decode cX2_become 26 = .ok (.bipush 16, 2) := by decide +kernel
theorem dX2_become_28 : decode cX2_become 28 = .ok (.invokestatic 26, 3) := by decide +kernel
theorem dX2_become_31 : decode cX2_become 31 = .ok (.aload_n 1, 1) := by decide +kernel
theorem dX2_become_32 : decode cX2_become 32 = .ok (.getfield 22, 3) := by decide +kernel
theorem dX2_become_35 : decode cX2_become 35 = .ok (.iconst 0, 1) := by decide +kernel
theorem dX2_become_36 : decode cX2_become 36 = .ok (.aload_n 0, 1) := by decide +kernel
theorem dX2_become_37 : decode cX2_become 37 = .ok (.getfield 22, 3) := by decide +kernel
theorem dX2_become_40 : decode cX2_become 40 = .ok (.iconst 0, 1) := by decide +kernel
theorem dX2_become_41 : decode cX2_become 41 = .ok (.sipush 256, 3) := by decide +kernel
theorem dX2_become_44 : decode cX2_become 44 = .ok (.invokestatic 26, 3) := by decide +kernel
theorem dX2_become_47 : decode cX2_become 47 = .ok (.return_, 1) := by decide +kernel
theorem dX2_hasRow_0 : decode cX2_hasRow 0 = .ok (.iload_n 1, 1) := by decide +kernel
theorem dX2_hasRow_1 : decode cX2_hasRow 1 = .ok (.ifCond .lt 15, 3) := by decide +kernel
theorem dX2_hasRow_4 : decode cX2_hasRow 4 = .ok (.iload_n 1, 1) := by decide +kernel
theorem dX2_hasRow_5 : decode cX2_hasRow 5 = .ok (.aload_n 0, 1) := by decide +kernel
theorem dX2_hasRow_6 : decode cX2_hasRow 6 = .ok (.getfield 9, 3) := by decide +kernel
theorem dX2_hasRow_9 : decode cX2_hasRow 9 = .ok (.if_icmp .ge 7, 3) := by decide +kernel
theorem dX2_hasRow_12 : decode cX2_hasRow 12 = .ok (.iconst 1, 1) := by decide +kernel
theorem dX2_hasRow_13 : decode cX2_hasRow 13 = .ok (.goto 4, 3) := by decide +kernel
theorem dX2_hasRow_16 : decode cX2_hasRow 16 = .ok (.iconst 0, 1) := by decide +kernel
theorem dX2_hasRow_17 : decode cX2_hasRow 17 = .ok (.ireturn, 1) := by decide +kernel
theorem dX2_covers_0 : decode cX2_covers 0 = .ok (.aload_n 0, 1) := by decide +kernel
theorem dX2_covers_1 : decode cX2_covers 1 = .ok (.iload_n 1, 1) := by decide +kernel
theorem dX2_covers_2 : decode cX2_covers 2 = .ok (.invokevirtual 32, 3) := by decide +kernel
theorem dX2_covers_5 : decode cX2_covers 5 = .ok (.ifCond .eq 19, 3) := by decide +kernel
theorem dX2_covers_8 : decode cX2_covers 8 = .ok (.iload_n 2, 1) := by decide +kernel
theorem dX2_covers_9 : decode cX2_covers 9 = .ok (.ifCond .lt 15, 3) := by decide +kernel
theorem dX2_covers_12 : decode cX2_covers 12 = .ok (.iload_n 2, 1) := by decide +kernel
theorem dX2_covers_13 : decode cX2_covers 13 = .ok (.aload_n 0, 1) := by decide +kernel
theorem dX2_covers_14 : decode cX2_covers 14 = .ok (.getfield 15, 3) := by decide +kernel
theorem dX2_covers_17 : decode cX2_covers 17 = .ok (.if_icmp .ge 7, 3) := by decide +kernel
theorem dX2_covers_20 : decode cX2_covers 20 = .ok (.iconst 1, 1) := by decide +kernel
theorem dX2_covers_21 : decode cX2_covers 21 = .ok (.goto 4, 3) := by decide +kernel
theorem dX2_covers_24 : decode cX2_covers 24 = .ok (.iconst 0, 1) := by decide +kernel
theorem dX2_covers_25 : decode cX2_covers 25 = .ok (.ireturn, 1) := by decide +kernel
theorem dX2_isSquare_0 : decode cX2_isSquare 0 = .ok (.aload_n 0, 1) := by decide +kernel
theorem dX2_isSquare_1 : decode cX2_isSquare 1 = .ok (.getfield 9, 3) := by decide +kernel
theorem dX2_isSquare_4 : decode cX2_isSquare 4 = .ok (.aload_n 0, 1) := by decide +kernel
theorem dX2_isSquare_5 : decode cX2_isSquare 5 = .ok (.getfield 15, 3) := by decide +kernel
theorem dX2_isSquare_8 : decode cX2_isSquare 8 = .ok (.if_icmp .ne 7, 3) := by decide +kernel
theorem dX2_isSquare_11 : decode cX2_isSquare 11 = .ok (.iconst 1, 1) := by decide +kernel
theorem dX2_isSquare_12 : decode cX2_isSquare 12 = .ok (.goto 4, 3) := by decide +kernel
theorem dX2_isSquare_15 : decode cX2_isSquare 15 = .ok (.iconst 0, 1) := by decide +kernel
theorem dX2_isSquare_16 : decode cX2_isSquare 16 = .ok (.ireturn, 1) := by decide +kernel
theorem dX2_hasSizeOf_0 : decode cX2_hasSizeOf 0 = .ok (.aload_n 0, 1) := by decide +kernel
theorem dX2_hasSizeOf_1 : decode cX2_hasSizeOf 1 = .ok (.getfield 9, 3) := by decide +kernel
theorem dX2_hasSizeOf_4 : decode cX2_hasSizeOf 4 = .ok (.aload_n 1, 1) := by decide +kernel
theorem dX2_hasSizeOf_5 : decode cX2_hasSizeOf 5 = .ok (.getfield 9, 3) := by decide +kernel
theorem dX2_hasSizeOf_8 : decode cX2_hasSizeOf 8 = .ok (.if_icmp .ne 18, 3) := by decide +kernel
theorem dX2_hasSizeOf_11 : decode cX2_hasSizeOf 11 = .ok (.aload_n 0, 1) := by decide +kernel
theorem dX2_hasSizeOf_12 : decode cX2_hasSizeOf 12 = .ok (.getfield 15, 3) := by decide +kernel
theorem dX2_hasSizeOf_15 : decode cX2_hasSizeOf 15 = .ok (.aload_n 1, 1) := by decide +kernel
theorem dX2_hasSizeOf_16 : decode cX2_hasSizeOf 16 = .ok (.getfield 15, 3) := by decide +kernel
theorem dX2_hasSizeOf_19 : decode cX2_hasSizeOf 19 = .ok (.if_icmp .ne 7, 3) := by decide +kernel
theorem dX2_hasSizeOf_22 : decode cX2_hasSizeOf 22 = .ok (.iconst 1, 1) := by decide +kernel
theorem dX2_hasSizeOf_23 : decode cX2_hasSizeOf 23 = .ok (.goto 4, 3) := by decide +kernel
theorem dX2_hasSizeOf_26 : decode cX2_hasSizeOf 26 = .ok (.iconst 0, 1) := by decide +kernel
theorem dX2_hasSizeOf_27 : decode cX2_hasSizeOf 27 = .ok (.ireturn, 1) := by decide +kernel
theorem dX2_columnsOf_0 : decode cX2_columnsOf 0 = .ok (.iload_n 1, 1) := by decide +kernel
theorem dX2_columnsOf_1 : decode cX2_columnsOf 1 = .ok (.invokestatic 36, 3) := by decide +kernel
theorem dX2_columnsOf_4 : decode cX2_columnsOf 4 = .ok (.ifCond .eq 12, 3) := by decide +kernel
theorem dX2_columnsOf_7 : decode cX2_columnsOf 7 = .ok (.aload_n 0, 1) := by decide +kernel
theorem dX2_columnsOf_8 : decode cX2_columnsOf 8 = .ok (.getfield 18, 3) := by decide +kernel
theorem dX2_columnsOf_11 : decode cX2_columnsOf 11 = .ok (.iload_n 1, 1) := by decide +kernel
theorem dX2_columnsOf_12 : decode cX2_columnsOf 12 = .ok (.iaload, 1) := by decide +kernel
theorem dX2_columnsOf_13 : decode cX2_columnsOf 13 = .ok (.goto 4, 3) := by decide +kernel
theorem dX2_columnsOf_16 : decode cX2_columnsOf 16 = .ok (.iconst 0, 1) := by decide +kernel
theorem dX2_columnsOf_17 : decode cX2_columnsOf 17 = .ok (.ireturn, 1) := by decide +kernel
theorem dX2_keeps_0 : decode cX2_keeps 0 = .ok (.iload_n 1, 1) := by decide +kernel
theorem dX2_keeps_1 : decode cX2_keeps 1 = .ok (.invokestatic 36, 3) := by decide +kernel
theorem dX2_keeps_4 : decode cX2_keeps 4 = .ok (.ifCond .eq 27, 3) := by decide +kernel
theorem dX2_keeps_7 : decode cX2_keeps 7 = .ok (.iload_n 2, 1) := by decide +kernel
theorem dX2_keeps_8 : decode cX2_keeps 8 = .ok (.invokestatic 36, 3) := by decide +kernel
theorem dX2_keeps_11 : decode cX2_keeps 11 = .ok (.ifCond .eq 20, 3) := by decide +kernel
theorem dX2_keeps_14 : decode cX2_keeps 14 = .ok (.aload_n 0, 1) := by decide +kernel
theorem dX2_keeps_15 : decode cX2_keeps 15 = .ok (.getfield 18, 3) := by decide +kernel
theorem dX2_keeps_18 : decode cX2_keeps 18 = .ok (.iload_n 1, 1) := by decide +kernel
theorem dX2_keeps_19 : decode cX2_keeps 19 = .ok (.iaload, 1) := by decide +kernel
theorem dX2_keeps_20 : decode cX2_keeps 20 = .ok (.iload_n 2, 1) := by decide +kernel
theorem dX2_keeps_21 : decode cX2_keeps 21 = .ok (.invokestatic 39, 3) := by decide +kernel
theorem dX2_keeps_24 : decode cX2_keeps 24 = .ok (.ifCond .eq 7, 3) := by decide +kernel
theorem dX2_keeps_27 : decode cX2_keeps 27 = .ok (.iconst 1, 1) := by decide +kernel
theorem dX2_keeps_28 : decode cX2_keeps 28 = .ok (.goto 4, 3) := by decide +kernel
theorem dX2_keeps_31 : decode cX2_keeps 31 = .ok (.iconst 0, 1) := by decide +kernel
theorem dX2_keeps_32 : decode cX2_keeps 32 = .ok (.ireturn, 1) := by decide +kernel
theorem dX2_value_0 : decode cX2_value 0 = .ok (.iload_n 1, 1) := by decide +kernel
theorem dX2_value_1 : decode cX2_value 1 = .ok (.invokestatic 36, 3) := by decide +kernel
theorem dX2_value_4 : decode cX2_value 4 = .ok (.ifCond .eq 24, 3) := by decide +kernel
theorem dX2_value_7 : decode cX2_value 7 = .ok (.iload_n 2, 1) := by decide +kernel
theorem dX2_value_8 : decode cX2_value 8 = .ok (.invokestatic 36, 3) := by decide +kernel
theorem dX2_value_11 : decode cX2_value 11 = .ok (.ifCond .eq 17, 3) := by decide +kernel
theorem dX2_value_14 : decode cX2_value 14 = .ok (.aload_n 0, 1) := by decide +kernel
theorem dX2_value_15 : decode cX2_value 15 = .ok (.getfield 22, 3) := by decide +kernel
theorem dX2_value_18 : decode cX2_value 18 = .ok (.iload_n 1, 1) := by decide +kernel
theorem dX2_value_19 : decode cX2_value 19 = .ok (.bipush 16, 2) := by decide +kernel
theorem dX2_value_21 : decode cX2_value 21 = .ok (.imul, 1) := by decide +kernel
theorem dX2_value_22 : decode cX2_value 22 = .ok (.iload_n 2, 1) := by decide +kernel
theorem dX2_value_23 : decode cX2_value 23 = .ok (.iadd, 1) := by decide +kernel
theorem dX2_value_24 : decode cX2_value 24 = .ok (.laload, 1) := by decide +kernel
theorem dX2_value_25 : decode cX2_value 25 = .ok (.goto 4, 3) := by decide +kernel
theorem dX2_value_28 : decode cX2_value 28 = .ok (.lconst 0, 1) := by decide +kernel
theorem dX2_value_29 : decode cX2_value 29 = .ok (.lreturn, 1) := by decide +kernel
theorem dX2_put_0 : decode cX2_put 0 = .ok (.iload_n 1, 1) := by decide +kernel
theorem dX2_put_1 : decode cX2_put 1 = .ok (.invokestatic 36, 3) := by decide +kernel
theorem dX2_put_4 : decode cX2_put 4 = .ok (.ifCond .eq 34, 3) := by decide +kernel
theorem dX2_put_7 : decode cX2_put 7 = .ok (.iload_n 2, 1) := by decide +kernel
theorem dX2_put_8 : decode cX2_put 8 = .ok (.invokestatic 36, 3) := by decide +kernel
theorem dX2_put_11 : decode cX2_put 11 = .ok (.ifCond .eq 27, 3) := by decide +kernel
theorem dX2_put_14 : decode cX2_put 14 = .ok (.aload_n 0, 1) := by decide +kernel
theorem dX2_put_15 : decode cX2_put 15 = .ok (.getfield 18, 3) := by decide +kernel
theorem dX2_put_18 : decode cX2_put 18 = .ok (.iload_n 1, 1) := by decide +kernel
theorem dX2_put_19 : decode cX2_put 19 = .ok (.dup2, 1) := by decide +kernel
theorem dX2_put_20 : decode cX2_put 20 = .ok (.iaload, 1) := by decide +kernel
theorem dX2_put_21 : decode cX2_put 21 = .ok (.iconst 1, 1) := by decide +kernel
theorem dX2_put_22 : decode cX2_put 22 = .ok (.iload_n 2, 1) := by decide +kernel
theorem dX2_put_23 : decode cX2_put 23 = .ok (.ishl, 1) := by decide +kernel
theorem dX2_put_24 : decode cX2_put 24 = .ok (.ior, 1) := by decide +kernel
theorem dX2_put_25 : decode cX2_put 25 = .ok (.iastore, 1) := by decide +kernel
theorem dX2_put_26 : decode cX2_put 26 = .ok (.aload_n 0, 1) := by decide +kernel
theorem dX2_put_27 : decode cX2_put 27 = .ok (.getfield 22, 3) := by decide +kernel
theorem dX2_put_30 : decode cX2_put 30 = .ok (.iload_n 1, 1) := by decide +kernel
theorem dX2_put_31 : decode cX2_put 31 = .ok (.bipush 16, 2) := by decide +kernel
theorem dX2_put_33 : decode cX2_put 33 = .ok (.imul, 1) := by decide +kernel
theorem dX2_put_34 : decode cX2_put 34 = .ok (.iload_n 2, 1) := by decide +kernel
theorem dX2_put_35 : decode cX2_put 35 = .ok (.iadd, 1) := by decide +kernel
theorem dX2_put_36 : decode cX2_put 36 = .ok (.lload_n 3, 1) := by decide +kernel
theorem dX2_put_37 : decode cX2_put 37 = .ok (.lastore, 1) := by decide +kernel
theorem dX2_put_38 : decode cX2_put 38 = .ok (.return_, 1) := by decide +kernel
theorem dX2_putSum_0 : decode cX2_putSum 0 = .ok (.aload_n 0, 1) := by decide +kernel
theorem dX2_putSum_1 : decode cX2_putSum 1 = .ok (.iload_n 1, 1) := by decide +kernel
theorem dX2_putSum_2 : decode cX2_putSum 2 = .ok (.iload_n 2, 1) := by decide +kernel
theorem dX2_putSum_3 : decode cX2_putSum 3 = .ok (.aload_n 0, 1) := by decide +kernel
theorem dX2_putSum_4 : decode cX2_putSum 4 = .ok (.iload_n 1, 1) := by decide +kernel
theorem dX2_putSum_5 : decode cX2_putSum 5 = .ok (.iload_n 2, 1) := by decide +kernel
theorem dX2_putSum_6 : decode cX2_putSum 6 = .ok (.invokevirtual 43, 3) := by decide +kernel
theorem dX2_putSum_9 : decode cX2_putSum 9 = .ok (.lload_n 3, 1) := by decide +kernel
theorem dX2_putSum_10 : decode cX2_putSum 10 = .ok (.ladd, 1) := by decide +kernel
theorem dX2_putSum_11 : decode cX2_putSum 11 = .ok (.invokevirtual 47, 3) := by decide +kernel
theorem dX2_putSum_14 : decode cX2_putSum 14 = .ok (.return_, 1) := by decide +kernel
theorem dX2_drop_0 : decode cX2_drop 0 = .ok (.iload_n 1, 1) := by decide +kernel
theorem dX2_drop_1 : decode cX2_drop 1 = .ok (.invokestatic 36, 3) := by decide +kernel
theorem dX2_drop_4 : decode cX2_drop 4 = .ok (.ifCond .eq 36, 3) := by decide +kernel
theorem dX2_drop_7 : decode cX2_drop 7 = .ok (.iload_n 2, 1) := by decide +kernel
theorem dX2_drop_8 : decode cX2_drop 8 = .ok (.invokestatic 36, 3) := by decide +kernel
theorem dX2_drop_11 : decode cX2_drop 11 = .ok (.ifCond .eq 29, 3) := by decide +kernel
theorem dX2_drop_14 : decode cX2_drop 14 = .ok (.aload_n 0, 1) := by decide +kernel
theorem dX2_drop_15 : decode cX2_drop 15 = .ok (.getfield 18, 3) := by decide +kernel
theorem dX2_drop_18 : decode cX2_drop 18 = .ok (.iload_n 1, 1) := by decide +kernel
theorem dX2_drop_19 : decode cX2_drop 19 = .ok (.dup2, 1) := by decide +kernel
theorem dX2_drop_20 : decode cX2_drop 20 = .ok (.iaload, 1) := by decide +kernel
theorem dX2_drop_21 : decode cX2_drop 21 = .ok (.iconst 1, 1) := by decide +kernel
theorem dX2_drop_22 : decode cX2_drop 22 = .ok (.iload_n 2, 1) := by decide +kernel
theorem dX2_drop_23 : decode cX2_drop 23 = .ok (.ishl, 1) := by decide +kernel
theorem dX2_drop_24 : decode cX2_drop 24 = .ok (.iconst (-1), 1) := by decide +kernel
theorem dX2_drop_25 : decode cX2_drop 25 = .ok (.ixor, 1) := by decide +kernel
theorem dX2_drop_26 : decode cX2_drop 26 = .ok (.iand, 1) := by decide +kernel
theorem dX2_drop_27 : decode cX2_drop 27 = .ok (.iastore, 1) := by decide +kernel
theorem dX2_drop_28 : decode cX2_drop 28 = .ok (.aload_n 0, 1) := by decide +kernel
theorem dX2_drop_29 : decode cX2_drop 29 = .ok (.getfield 22, 3) := by decide +kernel
theorem dX2_drop_32 : decode cX2_drop 32 = .ok (.iload_n 1, 1) := by decide +kernel
theorem dX2_drop_33 : decode cX2_drop 33 = .ok (.bipush 16, 2) := by decide +kernel
theorem dX2_drop_35 : decode cX2_drop 35 = .ok (.imul, 1) := by decide +kernel
theorem dX2_drop_36 : decode cX2_drop 36 = .ok (.iload_n 2, 1) := by decide +kernel
theorem dX2_drop_37 : decode cX2_drop 37 = .ok (.iadd, 1) := by decide +kernel
theorem dX2_drop_38 : decode cX2_drop 38 = .ok (.lconst 0, 1) := by decide +kernel
theorem dX2_drop_39 : decode cX2_drop 39 = .ok (.lastore, 1) := by decide +kernel
theorem dX2_drop_40 : decode cX2_drop 40 = .ok (.return_, 1) := by decide +kernel
theorem dX2_keptCount_0 : decode cX2_keptCount 0 = .ok (.aload_n 0, 1) := by decide +kernel
theorem dX2_keptCount_1 : decode cX2_keptCount 1 = .ok (.bipush 16, 2) := by decide +kernel
theorem dX2_keptCount_3 : decode cX2_keptCount 3 = .ok (.invokevirtual 51, 3) := by decide +kernel
theorem dX2_keptCount_6 : decode cX2_keptCount 6 = .ok (.ireturn, 1) := by decide +kernel
theorem dX2_keptAhead_0 : decode cX2_keptAhead 0 = .ok (.iconst 0, 1) := by decide +kernel
theorem dX2_keptAhead_1 : decode cX2_keptAhead 1 = .ok (.istore_n 2, 1) := by decide +kernel
theorem dX2_keptAhead_2 : decode cX2_keptAhead 2 = .ok (.iconst 0, 1) := by decide +kernel
theorem dX2_keptAhead_3 : decode cX2_keptAhead 3 = .ok (.istore_n 3, 1) := by decide +kernel
theorem dX2_keptAhead_4 : decode cX2_keptAhead 4 = .ok (.iload_n 3, 1) := by decide +kernel
theorem dX2_keptAhead_5 : decode cX2_keptAhead 5 = .ok (.bipush 16, 2) := by decide +kernel
theorem dX2_keptAhead_7 : decode cX2_keptAhead 7 = .ok (.if_icmp .ge 26, 3) := by decide +kernel
theorem dX2_keptAhead_10 : decode cX2_keptAhead 10 = .ok (.iload_n 3, 1) := by decide +kernel
theorem dX2_keptAhead_11 : decode cX2_keptAhead 11 = .ok (.iload_n 1, 1) := by decide +kernel
theorem dX2_keptAhead_12 : decode cX2_keptAhead 12 = .ok (.if_icmp .ge 21, 3) := by decide +kernel
theorem dX2_keptAhead_15 : decode cX2_keptAhead 15 = .ok (.iload_n 2, 1) := by decide +kernel
theorem dX2_keptAhead_16 : decode cX2_keptAhead 16 = .ok (.aload_n 0, 1) := by decide +kernel
theorem dX2_keptAhead_17 : decode cX2_keptAhead 17 = .ok (.getfield 18, 3) := by decide +kernel
theorem dX2_keptAhead_20 : decode cX2_keptAhead 20 = .ok (.iload_n 3, 1) := by decide +kernel
theorem dX2_keptAhead_21 : decode cX2_keptAhead 21 = .ok (.iaload, 1) := by decide +kernel
theorem dX2_keptAhead_22 : decode cX2_keptAhead 22 = .ok (.invokestatic 55, 3) := by decide +kernel
theorem dX2_keptAhead_25 : decode cX2_keptAhead 25 = .ok (.iadd, 1) := by decide +kernel
theorem dX2_keptAhead_26 : decode cX2_keptAhead 26 = .ok (.istore_n 2, 1) := by decide +kernel
theorem dX2_keptAhead_27 : decode cX2_keptAhead 27 = .ok (.iinc 3 1, 3) := by decide +kernel
theorem dX2_keptAhead_30 : decode cX2_keptAhead 30 = .ok (.goto (-26), 3) := by decide +kernel
theorem dX2_keptAhead_33 : decode cX2_keptAhead 33 = .ok (.iload_n 2, 1) := by decide +kernel
theorem dX2_keptAhead_34 : decode cX2_keptAhead 34 = .ok (.ireturn, 1) := by decide +kernel
theorem dX2_orderNumber_0 : decode cX2_orderNumber 0 = .ok (.iload_n 2, 1) := by decide +kernel
theorem dX2_orderNumber_1 : decode cX2_orderNumber 1 = .ok (.invokestatic 36, 3) := by decide +kernel
theorem dX2_orderNumber_4 : decode cX2_orderNumber 4 = .ok (.ifCond .eq 11, 3) := by decide +kernel
theorem dX2_orderNumber_7 : decode cX2_orderNumber 7 = .ok (.iconst 1, 1) := by decide +kernel
theorem dX2_orderNumber_8 : decode cX2_orderNumber 8 = .ok (.iload_n 2, 1) := by decide +kernel
theorem dX2_orderNumber_9 : decode cX2_orderNumber 9 = .ok (.ishl, 1) := by decide +kernel
theorem dX2_orderNumber_10 : decode cX2_orderNumber 10 = .ok (.iconst 1, 1) := by decide +kernel
theorem dX2_orderNumber_11 : decode cX2_orderNumber 11 = .ok (.isub, 1) := by decide +kernel
theorem dX2_orderNumber_12 : decode cX2_orderNumber 12 = .ok (.goto 4, 3) := by decide +kernel
theorem dX2_orderNumber_15 : decode cX2_orderNumber 15 = .ok (.iconst 0, 1) := by decide +kernel
theorem dX2_orderNumber_16 : decode cX2_orderNumber 16 = .ok (.istore_n 3, 1) := by decide +kernel
theorem dX2_orderNumber_17 : decode cX2_orderNumber 17 = .ok (.aload_n 0, 1) := by decide +kernel
theorem dX2_orderNumber_18 : decode cX2_orderNumber 18 = .ok (.iload_n 1, 1) := by decide +kernel
theorem dX2_orderNumber_19 : decode cX2_orderNumber 19 = .ok (.invokevirtual 51, 3) := by decide +kernel
theorem dX2_orderNumber_22 : decode cX2_orderNumber 22 = .ok (.aload_n 0, 1) := by decide +kernel
theorem dX2_orderNumber_23 : decode cX2_orderNumber 23 = .ok (.iload_n 1, 1) := by decide +kernel
theorem dX2_orderNumber_24 : decode cX2_orderNumber 24 = .ok (.invokevirtual 60, 3) := by decide +kernel
theorem dX2_orderNumber_27 : decode cX2_orderNumber 27 = .ok (.iload_n 3, 1) := by decide +kernel
theorem dX2_orderNumber_28 : decode cX2_orderNumber 28 = .ok (.iand, 1) := by decide +kernel
theorem dX2_orderNumber_29 : decode cX2_orderNumber 29 = .ok (.invokestatic 55, 3) := by decide +kernel
theorem dX2_orderNumber_32 : decode cX2_orderNumber 32 = .ok (.iadd, 1) := by decide +kernel
theorem dX2_orderNumber_33 : decode cX2_orderNumber 33 = .ok (.ireturn, 1) := by decide +kernel
theorem dX2_placeNumber_0 : decode cX2_placeNumber 0 = .ok (.iload_n 1, 1) := by decide +kernel
theorem dX2_placeNumber_1 : decode cX2_placeNumber 1 = .ok (.istore_n 2, 1) := by decide +kernel
theorem dX2_placeNumber_2 : decode cX2_placeNumber 2 = .ok (.iconst 0, 1) := by decide +kernel
theorem dX2_placeNumber_3 : decode cX2_placeNumber 3 = .ok (.istore_n 3, 1) := by decide +kernel
theorem dX2_placeNumber_4 : decode cX2_placeNumber 4 = .ok (.iload_n 3, 1) := by decide +kernel
theorem dX2_placeNumber_5 : decode cX2_placeNumber 5 = .ok (.bipush 16, 2) := by decide +kernel
theorem dX2_placeNumber_7 : decode cX2_placeNumber 7 = .ok (.if_icmp .ge 47, 3) := by decide +kernel
theorem dX2_placeNumber_10 : decode cX2_placeNumber 10 = .ok (.aload_n 0, 1) := by decide +kernel
theorem dX2_placeNumber_11 : decode cX2_placeNumber 11 = .ok (.getfield 18, 3) := by decide +kernel
theorem dX2_placeNumber_14 : decode cX2_placeNumber 14 = .ok (.iload_n 3, 1) := by decide +kernel
theorem dX2_placeNumber_15 : decode cX2_placeNumber 15 = .ok (.iaload, 1) := by decide +kernel
theorem dX2_placeNumber_16 : decode cX2_placeNumber 16 = .ok (.invokestatic 55, 3) := by decide +kernel
theorem dX2_placeNumber_19 : decode cX2_placeNumber 19 = .ok (.istore 4, 2) := by decide +kernel
theorem dX2_placeNumber_21 : decode cX2_placeNumber 21 = .ok (.iload_n 2, 1) := by decide +kernel
theorem dX2_placeNumber_22 : decode cX2_placeNumber 22 = .ok (.iload 4, 2) := by decide +kernel
theorem dX2_placeNumber_24 : decode cX2_placeNumber 24 = .ok (.if_icmp .ge 19, 3) := by decide +kernel
theorem dX2_placeNumber_27 : decode cX2_placeNumber 27 = .ok (.iload_n 3, 1) := by decide +kernel
theorem dX2_placeNumber_28 : decode cX2_placeNumber 28 = .ok (.bipush 16, 2) := by decide +kernel
theorem dX2_placeNumber_30 : decode cX2_placeNumber 30 = .ok (.imul, 1) := by decide +kernel
theorem dX2_placeNumber_31 : decode cX2_placeNumber 31 = .ok (.aload_n 0, 1) := by decide +kernel
theorem dX2_placeNumber_32 : decode cX2_placeNumber 32 = .ok (.getfield 18, 3) := by decide +kernel
theorem dX2_placeNumber_35 : decode cX2_placeNumber 35 = .ok (.iload_n 3, 1) := by decide +kernel
theorem dX2_placeNumber_36 : decode cX2_placeNumber 36 = .ok (.iaload, 1) := by decide +kernel
theorem dX2_placeNumber_37 : decode cX2_placeNumber 37 = .ok (.iload_n 2, 1) := by decide +kernel
theorem dX2_placeNumber_38 : decode cX2_placeNumber 38 = .ok (.invokestatic 63, 3) := by decide +kernel
theorem dX2_placeNumber_41 : decode cX2_placeNumber 41 = .ok (.iadd, 1) := by decide +kernel
theorem dX2_placeNumber_42 : decode cX2_placeNumber 42 = .ok (.ireturn, 1) := by decide +kernel
theorem dX2_placeNumber_43 : decode cX2_placeNumber 43 = .ok (.iload_n 2, 1) := by decide +kernel
theorem dX2_placeNumber_44 : decode cX2_placeNumber 44 = .ok (.iload 4, 2) := by decide +kernel
theorem dX2_placeNumber_46 : decode cX2_placeNumber 46 = .ok (.isub, 1) := by decide +kernel
theorem dX2_placeNumber_47 : decode cX2_placeNumber 47 = .ok (.istore_n 2, 1) := by decide +kernel
theorem dX2_placeNumber_48 : decode cX2_placeNumber 48 = .ok (.iinc 3 1, 3) := by decide +kernel
theorem dX2_placeNumber_51 : decode cX2_placeNumber 51 = .ok (.goto (-47), 3) := by decide +kernel
theorem dX2_placeNumber_54 : decode cX2_placeNumber 54 = .ok (.iconst 0, 1) := by decide +kernel
theorem dX2_placeNumber_55 : decode cX2_placeNumber 55 = .ok (.ireturn, 1) := by decide +kernel
theorem dX2_bitNumber_0 : decode cX2_bitNumber 0 = .ok (.iload_n 1, 1) := by decide +kernel
theorem dX2_bitNumber_1 : decode cX2_bitNumber 1 = .ok (.istore_n 2, 1) := by decide +kernel
theorem dX2_bitNumber_2 : decode cX2_bitNumber 2 = .ok (.iconst 0, 1) := by decide +kernel
theorem dX2_bitNumber_3 : decode cX2_bitNumber 3 = .ok (.istore_n 3, 1) := by decide +kernel
theorem dX2_bitNumber_4 : decode cX2_bitNumber 4 = .ok (.iload_n 3, 1) := by decide +kernel
theorem dX2_bitNumber_5 : decode cX2_bitNumber 5 = .ok (.bipush 16, 2) := by decide +kernel
theorem dX2_bitNumber_7 : decode cX2_bitNumber 7 = .ok (.if_icmp .ge 26, 3) := by decide +kernel
theorem dX2_bitNumber_10 : decode cX2_bitNumber 10 = .ok (.iload_n 0, 1) := by decide +kernel
theorem dX2_bitNumber_11 : decode cX2_bitNumber 11 = .ok (.iload_n 3, 1) := by decide +kernel
theorem dX2_bitNumber_12 : decode cX2_bitNumber 12 = .ok (.invokestatic 39, 3) := by decide +kernel
theorem dX2_bitNumber_15 : decode cX2_bitNumber 15 = .ok (.ifCond .eq 12, 3) := by decide +kernel
theorem dX2_bitNumber_18 : decode cX2_bitNumber 18 = .ok (.iload_n 2, 1) := by decide +kernel
theorem dX2_bitNumber_19 : decode cX2_bitNumber 19 = .ok (.ifCond .ne 5, 3) := by decide +kernel
theorem dX2_bitNumber_22 : decode cX2_bitNumber 22 = .ok (.iload_n 3, 1) := by decide +kernel
theorem dX2_bitNumber_23 : decode cX2_bitNumber 23 = .ok (.ireturn, 1) := by decide +kernel
theorem dX2_bitNumber_24 : decode cX2_bitNumber 24 = .ok (.iinc 2 (-1), 3) := by decide +kernel
theorem dX2_bitNumber_27 : decode cX2_bitNumber 27 = .ok (.iinc 3 1, 3) := by decide +kernel
theorem dX2_bitNumber_30 : decode cX2_bitNumber 30 = .ok (.goto (-26), 3) := by decide +kernel
theorem dX2_bitNumber_33 : decode cX2_bitNumber 33 = .ok (.iconst 0, 1) := by decide +kernel
theorem dX2_bitNumber_34 : decode cX2_bitNumber 34 = .ok (.ireturn, 1) := by decide +kernel
theorem dX2_keptZeros_0 : decode cX2_keptZeros 0 = .ok (.iconst 0, 1) := by decide +kernel
theorem dX2_keptZeros_1 : decode cX2_keptZeros 1 = .ok (.istore_n 1, 1) := by decide +kernel
theorem dX2_keptZeros_2 : decode cX2_keptZeros 2 = .ok (.iconst 0, 1) := by decide +kernel
theorem dX2_keptZeros_3 : decode cX2_keptZeros 3 = .ok (.istore_n 2, 1) := by decide +kernel
theorem dX2_keptZeros_4 : decode cX2_keptZeros 4 = .ok (.iload_n 2, 1) := by decide +kernel
theorem dX2_keptZeros_5 : decode cX2_keptZeros 5 = .ok (.bipush 16, 2) := by decide +kernel
theorem dX2_keptZeros_7 : decode cX2_keptZeros 7 = .ok (.if_icmp .ge 46, 3) := by decide +kernel
theorem dX2_keptZeros_10 : decode cX2_keptZeros 10 = .ok (.iconst 0, 1) := by decide +kernel
theorem dX2_keptZeros_11 : decode cX2_keptZeros 11 = .ok (.istore_n 3, 1) := by decide +kernel
theorem dX2_keptZeros_12 : decode cX2_keptZeros 12 = .ok (.iload_n 3, 1) := by decide +kernel
theorem dX2_keptZeros_13 : decode cX2_keptZeros 13 = .ok (.bipush 16, 2) := by decide +kernel
theorem dX2_keptZeros_15 : decode cX2_keptZeros 15 = .ok (.if_icmp .ge 32, 3) := by decide +kernel
theorem dX2_keptZeros_18 : decode cX2_keptZeros 18 = .ok (.aload_n 0, 1) := by decide +kernel
theorem dX2_keptZeros_19 : decode cX2_keptZeros 19 = .ok (.iload_n 2, 1) := by decide +kernel
theorem dX2_keptZeros_20 : decode cX2_keptZeros 20 = .ok (.iload_n 3, 1) := by decide +kernel
theorem dX2_keptZeros_21 : decode cX2_keptZeros 21 = .ok (.invokevirtual 67, 3) := by decide +kernel
theorem dX2_keptZeros_24 : decode cX2_keptZeros 24 = .ok (.ifCond .eq 17, 3) := by decide +kernel
theorem dX2_keptZeros_27 : decode cX2_keptZeros 27 = .ok (.aload_n 0, 1) := by decide +kernel
theorem dX2_keptZeros_28 : decode cX2_keptZeros 28 = .ok (.iload_n 2, 1) := by decide +kernel
theorem dX2_keptZeros_29 : decode cX2_keptZeros 29 = .ok (.iload_n 3, 1) := by decide +kernel
theorem dX2_keptZeros_30 : decode cX2_keptZeros 30 = .ok (.invokevirtual 43, 3) := by decide +kernel
theorem dX2_keptZeros_33 : decode cX2_keptZeros 33 = .ok (.lconst 0, 1) := by decide +kernel
theorem dX2_keptZeros_34 : decode cX2_keptZeros 34 = .ok (.lcmp, 1) := by decide +kernel
theorem dX2_keptZeros_35 : decode cX2_keptZeros 35 = .ok (.ifCond .ne 6, 3) := by decide +kernel
theorem dX2_keptZeros_38 : decode cX2_keptZeros 38 = .ok (.iinc 1 1, 3) := by decide +kernel
theorem dX2_keptZeros_41 : decode cX2_keptZeros 41 = .ok (.iinc 3 1, 3) := by decide +kernel
theorem dX2_keptZeros_44 : decode cX2_keptZeros 44 = .ok (.goto (-32), 3) := by decide +kernel
theorem dX2_keptZeros_47 : decode cX2_keptZeros 47 = .ok (.iinc 2 1, 3) := by decide +kernel
theorem dX2_keptZeros_50 : decode cX2_keptZeros 50 = .ok (.goto (-46), 3) := by decide +kernel
theorem dX2_keptZeros_53 : decode cX2_keptZeros 53 = .ok (.iload_n 1, 1) := by decide +kernel
theorem dX2_keptZeros_54 : decode cX2_keptZeros 54 = .ok (.ireturn, 1) := by decide +kernel
theorem dX2_dropZeros_0 : decode cX2_dropZeros 0 = .ok (.aload_n 0, 1) := by decide +kernel
theorem dX2_dropZeros_1 : decode cX2_dropZeros 1 = .ok (.invokevirtual 70, 3) := by decide +kernel
theorem dX2_dropZeros_4 : decode cX2_dropZeros 4 = .ok (.istore_n 1, 1) := by decide +kernel
theorem dX2_dropZeros_5 : decode cX2_dropZeros 5 = .ok (.iconst 0, 1) := by decide +kernel
theorem dX2_dropZeros_6 : decode cX2_dropZeros 6 = .ok (.istore_n 2, 1) := by decide +kernel
theorem dX2_dropZeros_7 : decode cX2_dropZeros 7 = .ok (.iload_n 2, 1) := by decide +kernel
theorem dX2_dropZeros_8 : decode cX2_dropZeros 8 = .ok (.bipush 16, 2) := by decide +kernel
theorem dX2_dropZeros_10 : decode cX2_dropZeros 10 = .ok (.if_icmp .ge 40, 3) := by decide +kernel
theorem dX2_dropZeros_13 : decode cX2_dropZeros 13 = .ok (.iconst 0, 1) := by decide +kernel
theorem dX2_dropZeros_14 : decode cX2_dropZeros 14 = .ok (.istore_n 3, 1) := by decide +kernel
theorem dX2_dropZeros_15 : decode cX2_dropZeros 15 = .ok (.iload_n 3, 1) := by decide +kernel
theorem dX2_dropZeros_16 : decode cX2_dropZeros 16 = .ok (.bipush 16, 2) := by decide +kernel
theorem dX2_dropZeros_18 : decode cX2_dropZeros 18 = .ok (.if_icmp .ge 26, 3) := by decide +kernel
theorem dX2_dropZeros_21 : decode cX2_dropZeros 21 = .ok (.aload_n 0, 1) := by decide +kernel
theorem dX2_dropZeros_22 : decode cX2_dropZeros 22 = .ok (.iload_n 2, 1) := by decide +kernel
theorem dX2_dropZeros_23 : decode cX2_dropZeros 23 = .ok (.iload_n 3, 1) := by decide +kernel
theorem dX2_dropZeros_24 : decode cX2_dropZeros 24 = .ok (.invokevirtual 43, 3) := by decide +kernel
theorem dX2_dropZeros_27 : decode cX2_dropZeros 27 = .ok (.lconst 0, 1) := by decide +kernel
theorem dX2_dropZeros_28 : decode cX2_dropZeros 28 = .ok (.lcmp, 1) := by decide +kernel
theorem dX2_dropZeros_29 : decode cX2_dropZeros 29 = .ok (.ifCond .ne 9, 3) := by decide +kernel
theorem dX2_dropZeros_32 : decode cX2_dropZeros 32 = .ok (.aload_n 0, 1) := by decide +kernel
theorem dX2_dropZeros_33 : decode cX2_dropZeros 33 = .ok (.iload_n 2, 1) := by decide +kernel
theorem dX2_dropZeros_34 : decode cX2_dropZeros 34 = .ok (.iload_n 3, 1) := by decide +kernel
theorem dX2_dropZeros_35 : decode cX2_dropZeros 35 = .ok (.invokevirtual 74, 3) := by decide +kernel
theorem dX2_dropZeros_38 : decode cX2_dropZeros 38 = .ok (.iinc 3 1, 3) := by decide +kernel
theorem dX2_dropZeros_41 : decode cX2_dropZeros 41 = .ok (.goto (-26), 3) := by decide +kernel
theorem dX2_dropZeros_44 : decode cX2_dropZeros 44 = .ok (.iinc 2 1, 3) := by decide +kernel
theorem dX2_dropZeros_47 : decode cX2_dropZeros 47 = .ok (.goto (-40), 3) := by decide +kernel
theorem dX2_dropZeros_50 : decode cX2_dropZeros 50 = .ok (.iload_n 1, 1) := by decide +kernel
theorem dX2_dropZeros_51 : decode cX2_dropZeros 51 = .ok (.ireturn, 1) := by decide +kernel
theorem dX2_rowSum_0 : decode cX2_rowSum 0 = .ok (.lconst 0, 1) := by decide +kernel
theorem dX2_rowSum_1 : decode cX2_rowSum 1 = .ok (.lstore_n 2, 1) := by decide +kernel
theorem dX2_rowSum_2 : decode cX2_rowSum 2 = .ok (.iconst 0, 1) := by decide +kernel
theorem dX2_rowSum_3 : decode cX2_rowSum 3 = .ok (.istore 4, 2) := by decide +kernel
theorem dX2_rowSum_5 : decode cX2_rowSum 5 = .ok (.iload 4, 2) := by decide +kernel
theorem dX2_rowSum_7 : decode cX2_rowSum 7 = .ok (.bipush 16, 2) := by decide +kernel
theorem dX2_rowSum_9 : decode cX2_rowSum 9 = .ok (.if_icmp .ge 19, 3) := by decide +kernel
theorem dX2_rowSum_12 : decode cX2_rowSum 12 = .ok (.lload_n 2, 1) := by decide +kernel
theorem dX2_rowSum_13 : decode cX2_rowSum 13 = .ok (.aload_n 0, 1) := by decide +kernel
theorem dX2_rowSum_14 : decode cX2_rowSum 14 = .ok (.iload_n 1, 1) := by decide +kernel
theorem dX2_rowSum_15 : decode cX2_rowSum 15 = .ok (.iload 4, 2) := by decide +kernel
theorem dX2_rowSum_17 : decode cX2_rowSum 17 = .ok (.invokevirtual 43, 3) := by decide +kernel
theorem dX2_rowSum_20 : decode cX2_rowSum 20 = .ok (.ladd, 1) := by decide +kernel
theorem dX2_rowSum_21 : decode cX2_rowSum 21 = .ok (.lstore_n 2, 1) := by decide +kernel
theorem dX2_rowSum_22 : decode cX2_rowSum 22 = .ok (.iinc 4 1, 3) := by decide +kernel
theorem dX2_rowSum_25 : decode cX2_rowSum 25 = .ok (.goto (-20), 3) := by decide +kernel
theorem dX2_rowSum_28 : decode cX2_rowSum 28 = .ok (.lload_n 2, 1) := by decide +kernel
theorem dX2_rowSum_29 : decode cX2_rowSum 29 = .ok (.lreturn, 1) := by decide +kernel
theorem dX2_columnSum_0 : decode cX2_columnSum 0 = .ok (.lconst 0, 1) := by decide +kernel
theorem dX2_columnSum_1 : decode cX2_columnSum 1 = .ok (.lstore_n 2, 1) := by decide +kernel
theorem dX2_columnSum_2 : decode cX2_columnSum 2 = .ok (.iconst 0, 1) := by decide +kernel
theorem dX2_columnSum_3 : decode cX2_columnSum 3 = .ok (.istore 4, 2) := by decide +kernel
theorem dX2_columnSum_5 : decode cX2_columnSum 5 = .ok (.iload 4, 2) := by decide +kernel
theorem dX2_columnSum_7 : decode cX2_columnSum 7 = .ok (.bipush 16, 2) := by decide +kernel
theorem dX2_columnSum_9 : decode cX2_columnSum 9 = .ok (.if_icmp .ge 19, 3) := by decide +kernel
theorem dX2_columnSum_12 : decode cX2_columnSum 12 = .ok (.lload_n 2, 1) := by decide +kernel
theorem dX2_columnSum_13 : decode cX2_columnSum 13 = .ok (.aload_n 0, 1) := by decide +kernel
theorem dX2_columnSum_14 : decode cX2_columnSum 14 = .ok (.iload 4, 2) := by decide +kernel
theorem dX2_columnSum_16 : decode cX2_columnSum 16 = .ok (.iload_n 1, 1) := by decide +kernel
theorem dX2_columnSum_17 : decode cX2_columnSum 17 = .ok (.invokevirtual 43, 3) := by decide +kernel
theorem dX2_columnSum_20 : decode cX2_columnSum 20 = .ok (.ladd, 1) := by decide +kernel
theorem dX2_columnSum_21 : decode cX2_columnSum 21 = .ok (.lstore_n 2, 1) := by decide +kernel
theorem dX2_columnSum_22 : decode cX2_columnSum 22 = .ok (.iinc 4 1, 3) := by decide +kernel
theorem dX2_columnSum_25 : decode cX2_columnSum 25 = .ok (.goto (-20), 3) := by decide +kernel
theorem dX2_columnSum_28 : decode cX2_columnSum 28 = .ok (.lload_n 2, 1) := by decide +kernel
theorem dX2_columnSum_29 : decode cX2_columnSum 29 = .ok (.lreturn, 1) := by decide +kernel
theorem dX2_addMultiple_0 : decode cX2_addMultiple 0 = .ok (.iconst 0, 1) := by decide +kernel
theorem dX2_addMultiple_1 : decode cX2_addMultiple 1 = .ok (.istore 4, 2) := by decide +kernel
theorem dX2_addMultiple_3 : decode cX2_addMultiple 3 = .ok (.iload 4, 2) := by decide +kernel
theorem dX2_addMultiple_5 : decode cX2_addMultiple 5 = .ok (.bipush 16, 2) := by decide +kernel
theorem dX2_addMultiple_7 : decode cX2_addMultiple 7 = .ok (.if_icmp .ge 54, 3) := by decide +kernel
theorem dX2_addMultiple_10 : decode cX2_addMultiple 10 = .ok (.iconst 0, 1) := by decide +kernel
theorem dX2_addMultiple_11 : decode cX2_addMultiple 11 = .ok (.istore 5, 2) := by decide +kernel
theorem dX2_addMultiple_13 : decode cX2_addMultiple 13 = .ok (.iload 5, 2) := by decide +kernel
theorem dX2_addMultiple_15 : decode cX2_addMultiple 15 = .ok (.bipush 16, 2) := by decide +kernel
theorem dX2_addMultiple_17 : decode cX2_addMultiple 17 = .ok (.if_icmp .ge 38, 3) := by decide +kernel
theorem dX2_addMultiple_20 : decode cX2_addMultiple 20 = .ok (.aload_n 1, 1) := by decide +kernel
theorem dX2_addMultiple_21 : decode cX2_addMultiple 21 = .ok (.iload 4, 2) := by decide +kernel
theorem dX2_addMultiple_23 : decode cX2_addMultiple 23 = .ok (.iload 5, 2) := by decide +kernel
theorem dX2_addMultiple_25 : decode cX2_addMultiple 25 = .ok (.invokevirtual 67, 3) := by decide +kernel
theorem dX2_addMultiple_28 : decode cX2_addMultiple 28 = .ok (.ifCond .eq 21, 3) := by decide +kernel
theorem dX2_addMultiple_31 : decode cX2_addMultiple 31 = .ok (.aload_n 0, 1) := by decide +kernel
