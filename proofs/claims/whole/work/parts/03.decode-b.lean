theorem dX2_addMultiple_32 : decode cX2_addMultiple 32 = .ok (.iload 4, 2) := by decide +kernel
theorem dX2_addMultiple_34 : decode cX2_addMultiple 34 = .ok (.iload 5, 2) := by decide +kernel
theorem dX2_addMultiple_36 : decode cX2_addMultiple 36 = .ok (.lload_n 2, 1) := by decide +kernel
theorem dX2_addMultiple_37 : decode cX2_addMultiple 37 = .ok (.aload_n 1, 1) := by decide +kernel
theorem dX2_addMultiple_38 : decode cX2_addMultiple 38 = .ok (.iload 4, 2) := by decide +kernel
theorem dX2_addMultiple_40 : decode cX2_addMultiple 40 = .ok (.iload 5, 2) := by decide +kernel
theorem dX2_addMultiple_42 : decode cX2_addMultiple 42 = .ok (.invokevirtual 43, 3) := by decide +kernel
theorem dX2_addMultiple_45 : decode cX2_addMultiple 45 = .ok (.lmul, 1) := by decide +kernel
theorem dX2_addMultiple_46 : decode cX2_addMultiple 46 = .ok (.invokevirtual 78, 3) := by decide +kernel
theorem dX2_addMultiple_49 : decode cX2_addMultiple 49 = .ok (.iinc 5 1, 3) := by decide +kernel
theorem dX2_addMultiple_52 : decode cX2_addMultiple 52 = .ok (.goto (-39), 3) := by decide +kernel
theorem dX2_addMultiple_55 : decode cX2_addMultiple 55 = .ok (.iinc 4 1, 3) := by decide +kernel
theorem dX2_addMultiple_58 : decode cX2_addMultiple 58 = .ok (.goto (-55), 3) := by decide +kernel
theorem dX2_addMultiple_61 : decode cX2_addMultiple 61 = .ok (.return_, 1) := by decide +kernel
theorem dX2_becomeProduct_0 : decode cX2_becomeProduct 0 = .ok (.aload_n 0, 1) := by decide +kernel
theorem dX2_becomeProduct_1 : decode cX2_becomeProduct 1 = .ok (.aload_n 1, 1) := by decide +kernel
theorem dX2_becomeProduct_2 : decode cX2_becomeProduct 2 = .ok (.getfield 9, 3) := by decide +kernel
theorem dX2_becomeProduct_5 : decode cX2_becomeProduct 5 = .ok (.aload_n 2, 1) := by decide +kernel
theorem dX2_becomeProduct_6 : decode cX2_becomeProduct 6 = .ok (.getfield 15, 3) := by decide +kernel
theorem dX2_becomeProduct_9 : decode cX2_becomeProduct 9 = .ok (.invokevirtual 81, 3) := by decide +kernel
theorem dX2_becomeProduct_12 : decode cX2_becomeProduct 12 = .ok (.iconst 0, 1) := by decide +kernel
theorem dX2_becomeProduct_13 : decode cX2_becomeProduct 13 = .ok (.istore_n 3, 1) := by decide +kernel
theorem dX2_becomeProduct_14 : decode cX2_becomeProduct 14 = .ok (.iload_n 3, 1) := by decide +kernel
theorem dX2_becomeProduct_15 : decode cX2_becomeProduct 15 = .ok (.bipush 16, 2) := by decide +kernel
theorem dX2_becomeProduct_17 : decode cX2_becomeProduct 17 = .ok (.if_icmp .ge 50, 3) := by decide +kernel
theorem dX2_becomeProduct_20 : decode cX2_becomeProduct 20 = .ok (.iconst 0, 1) := by decide +kernel
theorem dX2_becomeProduct_21 : decode cX2_becomeProduct 21 = .ok (.istore 4, 2) := by decide +kernel
theorem dX2_becomeProduct_23 : decode cX2_becomeProduct 23 = .ok (.iload 4, 2) := by decide +kernel
theorem dX2_becomeProduct_25 : decode cX2_becomeProduct 25 = .ok (.bipush 16, 2) := by decide +kernel
theorem dX2_becomeProduct_27 : decode cX2_becomeProduct 27 = .ok (.if_icmp .ge 34, 3) := by decide +kernel
theorem dX2_becomeProduct_30 : decode cX2_becomeProduct 30 = .ok (.aload_n 1, 1) := by decide +kernel
theorem dX2_becomeProduct_31 : decode cX2_becomeProduct 31 = .ok (.iload_n 3, 1) := by decide +kernel
theorem dX2_becomeProduct_32 : decode cX2_becomeProduct 32 = .ok (.iload 4, 2) := by decide +kernel
theorem dX2_becomeProduct_34 : decode cX2_becomeProduct 34 = .ok (.invokevirtual 67, 3) := by decide +kernel
theorem dX2_becomeProduct_37 : decode cX2_becomeProduct 37 = .ok (.ifCond .eq 18, 3) := by decide +kernel
theorem dX2_becomeProduct_40 : decode cX2_becomeProduct 40 = .ok (.aload_n 0, 1) := by decide +kernel
theorem dX2_becomeProduct_41 : decode cX2_becomeProduct 41 = .ok (.iload_n 3, 1) := by decide +kernel
theorem dX2_becomeProduct_42 : decode cX2_becomeProduct 42 = .ok (.aload_n 2, 1) := by decide +kernel
theorem dX2_becomeProduct_43 : decode cX2_becomeProduct 43 = .ok (.iload 4, 2) := by decide +kernel
theorem dX2_becomeProduct_45 : decode cX2_becomeProduct 45 = .ok (.aload_n 1, 1) := by decide +kernel
theorem dX2_becomeProduct_46 : decode cX2_becomeProduct 46 = .ok (.iload_n 3, 1) := by decide +kernel
theorem dX2_becomeProduct_47 : decode cX2_becomeProduct 47 = .ok (.iload 4, 2) := by decide +kernel
theorem dX2_becomeProduct_49 : decode cX2_becomeProduct 49 = .ok (.invokevirtual 43, 3) := by decide +kernel
theorem dX2_becomeProduct_52 : decode cX2_becomeProduct 52 = .ok (.invokevirtual 84, 3) := by decide +kernel
theorem dX2_becomeProduct_55 : decode cX2_becomeProduct 55 = .ok (.iinc 4 1, 3) := by decide +kernel
theorem dX2_becomeProduct_58 : decode cX2_becomeProduct 58 = .ok (.goto (-35), 3) := by decide +kernel
theorem dX2_becomeProduct_61 : decode cX2_becomeProduct 61 = .ok (.iinc 3 1, 3) := by decide +kernel
theorem dX2_becomeProduct_64 : decode cX2_becomeProduct 64 = .ok (.goto (-50), 3) := by decide +kernel
theorem dX2_becomeProduct_67 : decode cX2_becomeProduct 67 = .ok (.return_, 1) := by decide +kernel
theorem dX2_addRowMultiple_0 : decode cX2_addRowMultiple 0 = .ok (.iconst 0, 1) := by decide +kernel
theorem dX2_addRowMultiple_1 : decode cX2_addRowMultiple 1 = .ok (.istore 6, 2) := by decide +kernel
theorem dX2_addRowMultiple_3 : decode cX2_addRowMultiple 3 = .ok (.iload 6, 2) := by decide +kernel
theorem dX2_addRowMultiple_5 : decode cX2_addRowMultiple 5 = .ok (.bipush 16, 2) := by decide +kernel
theorem dX2_addRowMultiple_7 : decode cX2_addRowMultiple 7 = .ok (.if_icmp .ge 36, 3) := by decide +kernel
theorem dX2_addRowMultiple_10 : decode cX2_addRowMultiple 10 = .ok (.aload_n 2, 1) := by decide +kernel
theorem dX2_addRowMultiple_11 : decode cX2_addRowMultiple 11 = .ok (.iload_n 3, 1) := by decide +kernel
theorem dX2_addRowMultiple_12 : decode cX2_addRowMultiple 12 = .ok (.iload 6, 2) := by decide +kernel
theorem dX2_addRowMultiple_14 : decode cX2_addRowMultiple 14 = .ok (.invokevirtual 67, 3) := by decide +kernel
theorem dX2_addRowMultiple_17 : decode cX2_addRowMultiple 17 = .ok (.ifCond .eq 20, 3) := by decide +kernel
theorem dX2_addRowMultiple_20 : decode cX2_addRowMultiple 20 = .ok (.aload_n 0, 1) := by decide +kernel
theorem dX2_addRowMultiple_21 : decode cX2_addRowMultiple 21 = .ok (.iload_n 1, 1) := by decide +kernel
theorem dX2_addRowMultiple_22 : decode cX2_addRowMultiple 22 = .ok (.iload 6, 2) := by decide +kernel
theorem dX2_addRowMultiple_24 : decode cX2_addRowMultiple 24 = .ok (.lload 4, 2) := by decide +kernel
theorem dX2_addRowMultiple_26 : decode cX2_addRowMultiple 26 = .ok (.aload_n 2, 1) := by decide +kernel
theorem dX2_addRowMultiple_27 : decode cX2_addRowMultiple 27 = .ok (.iload_n 3, 1) := by decide +kernel
theorem dX2_addRowMultiple_28 : decode cX2_addRowMultiple 28 = .ok (.iload 6, 2) := by decide +kernel
theorem dX2_addRowMultiple_30 : decode cX2_addRowMultiple 30 = .ok (.invokevirtual 43, 3) := by decide +kernel
theorem dX2_addRowMultiple_33 : decode cX2_addRowMultiple 33 = .ok (.lmul, 1) := by decide +kernel
theorem dX2_addRowMultiple_34 : decode cX2_addRowMultiple 34 = .ok (.invokevirtual 78, 3) := by decide +kernel
theorem dX2_addRowMultiple_37 : decode cX2_addRowMultiple 37 = .ok (.iinc 6 1, 3) := by decide +kernel
theorem dX2_addRowMultiple_40 : decode cX2_addRowMultiple 40 = .ok (.goto (-37), 3) := by decide +kernel
theorem dX2_addRowMultiple_43 : decode cX2_addRowMultiple 43 = .ok (.return_, 1) := by decide +kernel
theorem dX2_becomeEach_0 : decode cX2_becomeEach 0 = .ok (.aload_n 0, 1) := by decide +kernel
theorem dX2_becomeEach_1 : decode cX2_becomeEach 1 = .ok (.aload_n 1, 1) := by decide +kernel
theorem dX2_becomeEach_2 : decode cX2_becomeEach 2 = .ok (.getfield 9, 3) := by decide +kernel
theorem dX2_becomeEach_5 : decode cX2_becomeEach 5 = .ok (.aload_n 1, 1) := by decide +kernel
theorem dX2_becomeEach_6 : decode cX2_becomeEach 6 = .ok (.getfield 15, 3) := by decide +kernel
theorem dX2_becomeEach_9 : decode cX2_becomeEach 9 = .ok (.invokevirtual 81, 3) := by decide +kernel
theorem dX2_becomeEach_12 : decode cX2_becomeEach 12 = .ok (.iconst 0, 1) := by decide +kernel
theorem dX2_becomeEach_13 : decode cX2_becomeEach 13 = .ok (.istore_n 3, 1) := by decide +kernel
theorem dX2_becomeEach_14 : decode cX2_becomeEach 14 = .ok (.iload_n 3, 1) := by decide +kernel
theorem dX2_becomeEach_15 : decode cX2_becomeEach 15 = .ok (.bipush 16, 2) := by decide +kernel
theorem dX2_becomeEach_17 : decode cX2_becomeEach 17 = .ok (.if_icmp .ge 67, 3) := by decide +kernel
theorem dX2_becomeEach_20 : decode cX2_becomeEach 20 = .ok (.iconst 0, 1) := by decide +kernel
theorem dX2_becomeEach_21 : decode cX2_becomeEach 21 = .ok (.istore 4, 2) := by decide +kernel
theorem dX2_becomeEach_23 : decode cX2_becomeEach 23 = .ok (.iload 4, 2) := by decide +kernel
theorem dX2_becomeEach_25 : decode cX2_becomeEach 25 = .ok (.bipush 16, 2) := by decide +kernel
theorem dX2_becomeEach_27 : decode cX2_becomeEach 27 = .ok (.if_icmp .ge 51, 3) := by decide +kernel
theorem dX2_becomeEach_30 : decode cX2_becomeEach 30 = .ok (.aload_n 1, 1) := by decide +kernel
theorem dX2_becomeEach_31 : decode cX2_becomeEach 31 = .ok (.iload_n 3, 1) := by decide +kernel
theorem dX2_becomeEach_32 : decode cX2_becomeEach 32 = .ok (.iload 4, 2) := by decide +kernel
theorem dX2_becomeEach_34 : decode cX2_becomeEach 34 = .ok (.invokevirtual 67, 3) := by decide +kernel
theorem dX2_becomeEach_37 : decode cX2_becomeEach 37 = .ok (.ifCond .eq 35, 3) := by decide +kernel
theorem dX2_becomeEach_40 : decode cX2_becomeEach 40 = .ok (.aload_n 2, 1) := by decide +kernel
theorem dX2_becomeEach_41 : decode cX2_becomeEach 41 = .ok (.iload_n 3, 1) := by decide +kernel
theorem dX2_becomeEach_42 : decode cX2_becomeEach 42 = .ok (.iload 4, 2) := by decide +kernel
theorem dX2_becomeEach_44 : decode cX2_becomeEach 44 = .ok (.invokevirtual 67, 3) := by decide +kernel
theorem dX2_becomeEach_47 : decode cX2_becomeEach 47 = .ok (.ifCond .eq 25, 3) := by decide +kernel
theorem dX2_becomeEach_50 : decode cX2_becomeEach 50 = .ok (.aload_n 0, 1) := by decide +kernel
theorem dX2_becomeEach_51 : decode cX2_becomeEach 51 = .ok (.iload_n 3, 1) := by decide +kernel
theorem dX2_becomeEach_52 : decode cX2_becomeEach 52 = .ok (.iload 4, 2) := by decide +kernel
theorem dX2_becomeEach_54 : decode cX2_becomeEach 54 = .ok (.aload_n 1, 1) := by decide +kernel
theorem dX2_becomeEach_55 : decode cX2_becomeEach 55 = .ok (.iload_n 3, 1) := by decide +kernel
theorem dX2_becomeEach_56 : decode cX2_becomeEach 56 = .ok (.iload 4, 2) := by decide +kernel
theorem dX2_becomeEach_58 : decode cX2_becomeEach 58 = .ok (.invokevirtual 43, 3) := by decide +kernel
theorem dX2_becomeEach_61 : decode cX2_becomeEach 61 = .ok (.aload_n 2, 1) := by decide +kernel
theorem dX2_becomeEach_62 : decode cX2_becomeEach 62 = .ok (.iload_n 3, 1) := by decide +kernel
theorem dX2_becomeEach_63 : decode cX2_becomeEach 63 = .ok (.iload 4, 2) := by decide +kernel
theorem dX2_becomeEach_65 : decode cX2_becomeEach 65 = .ok (.invokevirtual 43, 3) := by decide +kernel
theorem dX2_becomeEach_68 : decode cX2_becomeEach 68 = .ok (.lmul, 1) := by decide +kernel
theorem dX2_becomeEach_69 : decode cX2_becomeEach 69 = .ok (.invokevirtual 47, 3) := by decide +kernel
theorem dX2_becomeEach_72 : decode cX2_becomeEach 72 = .ok (.iinc 4 1, 3) := by decide +kernel
theorem dX2_becomeEach_75 : decode cX2_becomeEach 75 = .ok (.goto (-52), 3) := by decide +kernel
theorem dX2_becomeEach_78 : decode cX2_becomeEach 78 = .ok (.iinc 3 1, 3) := by decide +kernel
theorem dX2_becomeEach_81 : decode cX2_becomeEach 81 = .ok (.goto (-67), 3) := by decide +kernel
theorem dX2_becomeEach_84 : decode cX2_becomeEach 84 = .ok (.return_, 1) := by decide +kernel
theorem dX2_becomeMasked_0 : decode cX2_becomeMasked 0 = .ok (.aload_n 0, 1) := by decide +kernel
theorem dX2_becomeMasked_1 : decode cX2_becomeMasked 1 = .ok (.aload_n 1, 1) := by decide +kernel
theorem dX2_becomeMasked_2 : decode cX2_becomeMasked 2 = .ok (.getfield 9, 3) := by decide +kernel
theorem dX2_becomeMasked_5 : decode cX2_becomeMasked 5 = .ok (.aload_n 1, 1) := by decide +kernel
theorem dX2_becomeMasked_6 : decode cX2_becomeMasked 6 = .ok (.getfield 15, 3) := by decide +kernel
theorem dX2_becomeMasked_9 : decode cX2_becomeMasked 9 = .ok (.invokevirtual 81, 3) := by decide +kernel
theorem dX2_becomeMasked_12 : decode cX2_becomeMasked 12 = .ok (.iconst 0, 1) := by decide +kernel
theorem dX2_becomeMasked_13 : decode cX2_becomeMasked 13 = .ok (.istore 4, 2) := by decide +kernel
theorem dX2_becomeMasked_15 : decode cX2_becomeMasked 15 = .ok (.iload 4, 2) := by decide +kernel
theorem dX2_becomeMasked_17 : decode cX2_becomeMasked 17 = .ok (.bipush 16, 2) := by decide +kernel
theorem dX2_becomeMasked_19 : decode cX2_becomeMasked 19 = .ok (.if_icmp .ge 64, 3) := by decide +kernel
theorem dX2_becomeMasked_22 : decode cX2_becomeMasked 22 = .ok (.iconst 0, 1) := by decide +kernel
theorem dX2_becomeMasked_23 : decode cX2_becomeMasked 23 = .ok (.istore 5, 2) := by decide +kernel
theorem dX2_becomeMasked_25 : decode cX2_becomeMasked 25 = .ok (.iload 5, 2) := by decide +kernel
theorem dX2_becomeMasked_27 : decode cX2_becomeMasked 27 = .ok (.bipush 16, 2) := by decide +kernel
theorem dX2_becomeMasked_29 : decode cX2_becomeMasked 29 = .ok (.if_icmp .ge 48, 3) := by decide +kernel
theorem dX2_becomeMasked_32 : decode cX2_becomeMasked 32 = .ok (.aload_n 1, 1) := by decide +kernel
theorem dX2_becomeMasked_33 : decode cX2_becomeMasked 33 = .ok (.iload 4, 2) := by decide +kernel
theorem dX2_becomeMasked_35 : decode cX2_becomeMasked 35 = .ok (.iload 5, 2) := by decide +kernel
theorem dX2_becomeMasked_37 : decode cX2_becomeMasked 37 = .ok (.invokevirtual 67, 3) := by decide +kernel
theorem dX2_becomeMasked_40 : decode cX2_becomeMasked 40 = .ok (.ifCond .eq 31, 3) := by decide +kernel
theorem dX2_becomeMasked_43 : decode cX2_becomeMasked 43 = .ok (.aload_n 2, 1) := by decide +kernel
theorem dX2_becomeMasked_44 : decode cX2_becomeMasked 44 = .ok (.iload 4, 2) := by decide +kernel
theorem dX2_becomeMasked_46 : decode cX2_becomeMasked 46 = .ok (.iload 5, 2) := by decide +kernel
theorem dX2_becomeMasked_48 : decode cX2_becomeMasked 48 = .ok (.invokevirtual 67, 3) := by decide +kernel
theorem dX2_becomeMasked_51 : decode cX2_becomeMasked 51 = .ok (.iload_n 3, 1) := by decide +kernel
theorem dX2_becomeMasked_52 : decode cX2_becomeMasked 52 = .ok (.if_icmp .ne 19, 3) := by decide +kernel
theorem dX2_becomeMasked_55 : decode cX2_becomeMasked 55 = .ok (.aload_n 0, 1) := by decide +kernel
theorem dX2_becomeMasked_56 : decode cX2_becomeMasked 56 = .ok (.iload 4, 2) := by decide +kernel
theorem dX2_becomeMasked_58 : decode cX2_becomeMasked 58 = .ok (.iload 5, 2) := by decide +kernel
theorem dX2_becomeMasked_60 : decode cX2_becomeMasked 60 = .ok (.aload_n 1, 1) := by decide +kernel
theorem dX2_becomeMasked_61 : decode cX2_becomeMasked 61 = .ok (.iload 4, 2) := by decide +kernel
theorem dX2_becomeMasked_63 : decode cX2_becomeMasked 63 = .ok (.iload 5, 2) := by decide +kernel
theorem dX2_becomeMasked_65 : decode cX2_becomeMasked 65 = .ok (.invokevirtual 43, 3) := by decide +kernel
theorem dX2_becomeMasked_68 : decode cX2_becomeMasked 68 = .ok (.invokevirtual 47, 3) := by decide +kernel
theorem dX2_becomeMasked_71 : decode cX2_becomeMasked 71 = .ok (.iinc 5 1, 3) := by decide +kernel
theorem dX2_becomeMasked_74 : decode cX2_becomeMasked 74 = .ok (.goto (-49), 3) := by decide +kernel
theorem dX2_becomeMasked_77 : decode cX2_becomeMasked 77 = .ok (.iinc 4 1, 3) := by decide +kernel
theorem dX2_becomeMasked_80 : decode cX2_becomeMasked 80 = .ok (.goto (-65), 3) := by decide +kernel
theorem dX2_becomeMasked_83 : decode cX2_becomeMasked 83 = .ok (.return_, 1) := by decide +kernel
theorem dX2_becomeTurned_0 : decode cX2_becomeTurned 0 = .ok (.aload_n 0, 1) := by decide +kernel
theorem dX2_becomeTurned_1 : decode cX2_becomeTurned 1 = .ok (.aload_n 1, 1) := by decide +kernel
theorem dX2_becomeTurned_2 : decode cX2_becomeTurned 2 = .ok (.getfield 15, 3) := by decide +kernel
theorem dX2_becomeTurned_5 : decode cX2_becomeTurned 5 = .ok (.aload_n 1, 1) := by decide +kernel
theorem dX2_becomeTurned_6 : decode cX2_becomeTurned 6 = .ok (.getfield 9, 3) := by decide +kernel
theorem dX2_becomeTurned_9 : decode cX2_becomeTurned 9 = .ok (.invokevirtual 81, 3) := by decide +kernel
theorem dX2_becomeTurned_12 : decode cX2_becomeTurned 12 = .ok (.iconst 0, 1) := by decide +kernel
theorem dX2_becomeTurned_13 : decode cX2_becomeTurned 13 = .ok (.istore_n 2, 1) := by decide +kernel
theorem dX2_becomeTurned_14 : decode cX2_becomeTurned 14 = .ok (.iload_n 2, 1) := by decide +kernel
theorem dX2_becomeTurned_15 : decode cX2_becomeTurned 15 = .ok (.bipush 16, 2) := by decide +kernel
theorem dX2_becomeTurned_17 : decode cX2_becomeTurned 17 = .ok (.if_icmp .ge 44, 3) := by decide +kernel
theorem dX2_becomeTurned_20 : decode cX2_becomeTurned 20 = .ok (.iconst 0, 1) := by decide +kernel
theorem dX2_becomeTurned_21 : decode cX2_becomeTurned 21 = .ok (.istore_n 3, 1) := by decide +kernel
theorem dX2_becomeTurned_22 : decode cX2_becomeTurned 22 = .ok (.iload_n 3, 1) := by decide +kernel
theorem dX2_becomeTurned_23 : decode cX2_becomeTurned 23 = .ok (.bipush 16, 2) := by decide +kernel
theorem dX2_becomeTurned_25 : decode cX2_becomeTurned 25 = .ok (.if_icmp .ge 30, 3) := by decide +kernel
theorem dX2_becomeTurned_28 : decode cX2_becomeTurned 28 = .ok (.aload_n 1, 1) := by decide +kernel
theorem dX2_becomeTurned_29 : decode cX2_becomeTurned 29 = .ok (.iload_n 2, 1) := by decide +kernel
theorem dX2_becomeTurned_30 : decode cX2_becomeTurned 30 = .ok (.iload_n 3, 1) := by decide +kernel
theorem dX2_becomeTurned_31 : decode cX2_becomeTurned 31 = .ok (.invokevirtual 67, 3) := by decide +kernel
theorem dX2_becomeTurned_34 : decode cX2_becomeTurned 34 = .ok (.ifCond .eq 15, 3) := by decide +kernel
theorem dX2_becomeTurned_37 : decode cX2_becomeTurned 37 = .ok (.aload_n 0, 1) := by decide +kernel
theorem dX2_becomeTurned_38 : decode cX2_becomeTurned 38 = .ok (.iload_n 3, 1) := by decide +kernel
theorem dX2_becomeTurned_39 : decode cX2_becomeTurned 39 = .ok (.iload_n 2, 1) := by decide +kernel
theorem dX2_becomeTurned_40 : decode cX2_becomeTurned 40 = .ok (.aload_n 1, 1) := by decide +kernel
theorem dX2_becomeTurned_41 : decode cX2_becomeTurned 41 = .ok (.iload_n 2, 1) := by decide +kernel
theorem dX2_becomeTurned_42 : decode cX2_becomeTurned 42 = .ok (.iload_n 3, 1) := by decide +kernel
theorem dX2_becomeTurned_43 : decode cX2_becomeTurned 43 = .ok (.invokevirtual 43, 3) := by decide +kernel
theorem dX2_becomeTurned_46 : decode cX2_becomeTurned 46 = .ok (.invokevirtual 47, 3) := by decide +kernel
theorem dX2_becomeTurned_49 : decode cX2_becomeTurned 49 = .ok (.iinc 3 1, 3) := by decide +kernel
theorem dX2_becomeTurned_52 : decode cX2_becomeTurned 52 = .ok (.goto (-30), 3) := by decide +kernel
theorem dX2_becomeTurned_55 : decode cX2_becomeTurned 55 = .ok (.iinc 2 1, 3) := by decide +kernel
theorem dX2_becomeTurned_58 : decode cX2_becomeTurned 58 = .ok (.goto (-44), 3) := by decide +kernel
theorem dX2_becomeTurned_61 : decode cX2_becomeTurned 61 = .ok (.return_, 1) := by decide +kernel
theorem dX2_becomeRows_0 : decode cX2_becomeRows 0 = .ok (.aload_n 0, 1) := by decide +kernel
theorem dX2_becomeRows_1 : decode cX2_becomeRows 1 = .ok (.aload_n 2, 1) := by decide +kernel
theorem dX2_becomeRows_2 : decode cX2_becomeRows 2 = .ok (.getfield 88, 3) := by decide +kernel
theorem dX2_becomeRows_5 : decode cX2_becomeRows 5 = .ok (.aload_n 1, 1) := by decide +kernel
theorem dX2_becomeRows_6 : decode cX2_becomeRows 6 = .ok (.getfield 15, 3) := by decide +kernel
theorem dX2_becomeRows_9 : decode cX2_becomeRows 9 = .ok (.invokevirtual 81, 3) := by decide +kernel
theorem dX2_becomeRows_12 : decode cX2_becomeRows 12 = .ok (.iconst 0, 1) := by decide +kernel
theorem dX2_becomeRows_13 : decode cX2_becomeRows 13 = .ok (.istore_n 3, 1) := by decide +kernel
theorem dX2_becomeRows_14 : decode cX2_becomeRows 14 = .ok (.iload_n 3, 1) := by decide +kernel
theorem dX2_becomeRows_15 : decode cX2_becomeRows 15 = .ok (.bipush 16, 2) := by decide +kernel
theorem dX2_becomeRows_17 : decode cX2_becomeRows 17 = .ok (.if_icmp .ge 29, 3) := by decide +kernel
theorem dX2_becomeRows_20 : decode cX2_becomeRows 20 = .ok (.iload_n 3, 1) := by decide +kernel
theorem dX2_becomeRows_21 : decode cX2_becomeRows 21 = .ok (.aload_n 2, 1) := by decide +kernel
theorem dX2_becomeRows_22 : decode cX2_becomeRows 22 = .ok (.getfield 88, 3) := by decide +kernel
theorem dX2_becomeRows_25 : decode cX2_becomeRows 25 = .ok (.if_icmp .ge 21, 3) := by decide +kernel
theorem dX2_becomeRows_28 : decode cX2_becomeRows 28 = .ok (.aload_n 0, 1) := by decide +kernel
theorem dX2_becomeRows_29 : decode cX2_becomeRows 29 = .ok (.iload_n 3, 1) := by decide +kernel
theorem dX2_becomeRows_30 : decode cX2_becomeRows 30 = .ok (.aload_n 1, 1) := by decide +kernel
theorem dX2_becomeRows_31 : decode cX2_becomeRows 31 = .ok (.aload_n 2, 1) := by decide +kernel
theorem dX2_becomeRows_32 : decode cX2_becomeRows 32 = .ok (.iload_n 3, 1) := by decide +kernel
theorem dX2_becomeRows_33 : decode cX2_becomeRows 33 = .ok (.invokevirtual 93, 3) := by decide +kernel
theorem dX2_becomeRows_36 : decode cX2_becomeRows 36 = .ok (.lconst 1, 1) := by decide +kernel
theorem dX2_becomeRows_37 : decode cX2_becomeRows 37 = .ok (.invokevirtual 84, 3) := by decide +kernel
theorem dX2_becomeRows_40 : decode cX2_becomeRows 40 = .ok (.iinc 3 1, 3) := by decide +kernel
theorem dX2_becomeRows_43 : decode cX2_becomeRows 43 = .ok (.goto (-29), 3) := by decide +kernel
theorem dX2_becomeRows_46 : decode cX2_becomeRows 46 = .ok (.return_, 1) := by decide +kernel
theorem dX2_becomeSlopesOfLeft_0 : decode cX2_becomeSlopesOfLeft 0 = .ok (.aload_n 0, 1) := by decide +kernel
theorem dX2_becomeSlopesOfLeft_1 : decode cX2_becomeSlopesOfLeft 1 = .ok (.aload_n 1, 1) := by decide +kernel
theorem dX2_becomeSlopesOfLeft_2 : decode cX2_becomeSlopesOfLeft 2 = .ok (.getfield 9, 3) := by decide +kernel
theorem dX2_becomeSlopesOfLeft_5 : decode cX2_becomeSlopesOfLeft 5 = .ok (.aload_n 1, 1) := by decide +kernel
theorem dX2_becomeSlopesOfLeft_6 : decode cX2_becomeSlopesOfLeft 6 = .ok (.getfield 15, 3) := by decide +kernel
theorem dX2_becomeSlopesOfLeft_9 : decode cX2_becomeSlopesOfLeft 9 = .ok (.invokevirtual 81, 3) := by decide +kernel
theorem dX2_becomeSlopesOfLeft_12 : decode cX2_becomeSlopesOfLeft 12 = .ok (.iconst 0, 1) := by decide +kernel
theorem dX2_becomeSlopesOfLeft_13 : decode cX2_becomeSlopesOfLeft 13 = .ok (.istore 4, 2) := by decide +kernel
theorem dX2_becomeSlopesOfLeft_15 : decode cX2_becomeSlopesOfLeft 15 = .ok (.iload 4, 2) := by decide +kernel
theorem dX2_becomeSlopesOfLeft_17 : decode cX2_becomeSlopesOfLeft 17 = .ok (.bipush 16, 2) := by decide +kernel
theorem dX2_becomeSlopesOfLeft_19 : decode cX2_becomeSlopesOfLeft 19 = .ok (.if_icmp .ge 53, 3) := by decide +kernel
theorem dX2_becomeSlopesOfLeft_22 : decode cX2_becomeSlopesOfLeft 22 = .ok (.iconst 0, 1) := by decide +kernel
theorem dX2_becomeSlopesOfLeft_23 : decode cX2_becomeSlopesOfLeft 23 = .ok (.istore 5, 2) := by decide +kernel
theorem dX2_becomeSlopesOfLeft_25 : decode cX2_becomeSlopesOfLeft 25 = .ok (.iload 5, 2) := by decide +kernel
theorem dX2_becomeSlopesOfLeft_27 : decode cX2_becomeSlopesOfLeft 27 = .ok (.bipush 16, 2) := by decide +kernel
theorem dX2_becomeSlopesOfLeft_29 : decode cX2_becomeSlopesOfLeft 29 = .ok (.if_icmp .ge 37, 3) := by decide +kernel
theorem dX2_becomeSlopesOfLeft_32 : decode cX2_becomeSlopesOfLeft 32 = .ok (.aload_n 1, 1) := by decide +kernel
theorem dX2_becomeSlopesOfLeft_33 : decode cX2_becomeSlopesOfLeft 33 = .ok (.iload 4, 2) := by decide +kernel
theorem dX2_becomeSlopesOfLeft_35 : decode cX2_becomeSlopesOfLeft 35 = .ok (.iload 5, 2) := by decide +kernel
theorem dX2_becomeSlopesOfLeft_37 : decode cX2_becomeSlopesOfLeft 37 = .ok (.invokevirtual 67, 3) := by decide +kernel
theorem dX2_becomeSlopesOfLeft_40 : decode cX2_becomeSlopesOfLeft 40 = .ok (.ifCond .eq 20, 3) := by decide +kernel
theorem dX2_becomeSlopesOfLeft_43 : decode cX2_becomeSlopesOfLeft 43 = .ok (.aload_n 0, 1) := by decide +kernel
theorem dX2_becomeSlopesOfLeft_44 : decode cX2_becomeSlopesOfLeft 44 = .ok (.iload 4, 2) := by decide +kernel
theorem dX2_becomeSlopesOfLeft_46 : decode cX2_becomeSlopesOfLeft 46 = .ok (.iload 5, 2) := by decide +kernel
theorem dX2_becomeSlopesOfLeft_48 : decode cX2_becomeSlopesOfLeft 48 = .ok (.aload_n 3, 1) := by decide +kernel
theorem dX2_becomeSlopesOfLeft_49 : decode cX2_becomeSlopesOfLeft 49 = .ok (.iload 4, 2) := by decide +kernel
theorem dX2_becomeSlopesOfLeft_51 : decode cX2_becomeSlopesOfLeft 51 = .ok (.aload_n 2, 1) := by decide +kernel
theorem dX2_becomeSlopesOfLeft_52 : decode cX2_becomeSlopesOfLeft 52 = .ok (.iload 5, 2) := by decide +kernel
theorem dX2_becomeSlopesOfLeft_54 : decode cX2_becomeSlopesOfLeft 54 = .ok (.invokevirtual 96, 3) := by decide +kernel
theorem dX2_becomeSlopesOfLeft_57 : decode cX2_becomeSlopesOfLeft 57 = .ok (.invokevirtual 47, 3) := by decide +kernel
theorem dX2_becomeSlopesOfLeft_60 : decode cX2_becomeSlopesOfLeft 60 = .ok (.iinc 5 1, 3) := by decide +kernel
theorem dX2_becomeSlopesOfLeft_63 : decode cX2_becomeSlopesOfLeft 63 = .ok (.goto (-38), 3) := by decide +kernel
theorem dX2_becomeSlopesOfLeft_66 : decode cX2_becomeSlopesOfLeft 66 = .ok (.iinc 4 1, 3) := by decide +kernel
theorem dX2_becomeSlopesOfLeft_69 : decode cX2_becomeSlopesOfLeft 69 = .ok (.goto (-54), 3) := by decide +kernel
theorem dX2_becomeSlopesOfLeft_72 : decode cX2_becomeSlopesOfLeft 72 = .ok (.return_, 1) := by decide +kernel
theorem dX2_becomeSlopesOfRight_0 : decode cX2_becomeSlopesOfRight 0 = .ok (.aload_n 0, 1) := by decide +kernel
theorem dX2_becomeSlopesOfRight_1 : decode cX2_becomeSlopesOfRight 1 = .ok (.aload_n 2, 1) := by decide +kernel
theorem dX2_becomeSlopesOfRight_2 : decode cX2_becomeSlopesOfRight 2 = .ok (.getfield 9, 3) := by decide +kernel
theorem dX2_becomeSlopesOfRight_5 : decode cX2_becomeSlopesOfRight 5 = .ok (.aload_n 2, 1) := by decide +kernel
theorem dX2_becomeSlopesOfRight_6 : decode cX2_becomeSlopesOfRight 6 = .ok (.getfield 15, 3) := by decide +kernel
theorem dX2_becomeSlopesOfRight_9 : decode cX2_becomeSlopesOfRight 9 = .ok (.invokevirtual 81, 3) := by decide +kernel
theorem dX2_becomeSlopesOfRight_12 : decode cX2_becomeSlopesOfRight 12 = .ok (.iconst 0, 1) := by decide +kernel
theorem dX2_becomeSlopesOfRight_13 : decode cX2_becomeSlopesOfRight 13 = .ok (.istore 4, 2) := by decide +kernel
theorem dX2_becomeSlopesOfRight_15 : decode cX2_becomeSlopesOfRight 15 = .ok (.iload 4, 2) := by decide +kernel
theorem dX2_becomeSlopesOfRight_17 : decode cX2_becomeSlopesOfRight 17 = .ok (.bipush 16, 2) := by decide +kernel
theorem dX2_becomeSlopesOfRight_19 : decode cX2_becomeSlopesOfRight 19 = .ok (.if_icmp .ge 53, 3) := by decide +kernel
theorem dX2_becomeSlopesOfRight_22 : decode cX2_becomeSlopesOfRight 22 = .ok (.iconst 0, 1) := by decide +kernel
theorem dX2_becomeSlopesOfRight_23 : decode cX2_becomeSlopesOfRight 23 = .ok (.istore 5, 2) := by decide +kernel
theorem dX2_becomeSlopesOfRight_25 : decode cX2_becomeSlopesOfRight 25 = .ok (.iload 5, 2) := by decide +kernel
theorem dX2_becomeSlopesOfRight_27 : decode cX2_becomeSlopesOfRight 27 = .ok (.bipush 16, 2) := by decide +kernel
theorem dX2_becomeSlopesOfRight_29 : decode cX2_becomeSlopesOfRight 29 = .ok (.if_icmp .ge 37, 3) := by decide +kernel
theorem dX2_becomeSlopesOfRight_32 : decode cX2_becomeSlopesOfRight 32 = .ok (.aload_n 2, 1) := by decide +kernel
theorem dX2_becomeSlopesOfRight_33 : decode cX2_becomeSlopesOfRight 33 = .ok (.iload 4, 2) := by decide +kernel
theorem dX2_becomeSlopesOfRight_35 : decode cX2_becomeSlopesOfRight 35 = .ok (.iload 5, 2) := by decide +kernel
theorem dX2_becomeSlopesOfRight_37 : decode cX2_becomeSlopesOfRight 37 = .ok (.invokevirtual 67, 3) := by decide +kernel
theorem dX2_becomeSlopesOfRight_40 : decode cX2_becomeSlopesOfRight 40 = .ok (.ifCond .eq 20, 3) := by decide +kernel
theorem dX2_becomeSlopesOfRight_43 : decode cX2_becomeSlopesOfRight 43 = .ok (.aload_n 0, 1) := by decide +kernel
theorem dX2_becomeSlopesOfRight_44 : decode cX2_becomeSlopesOfRight 44 = .ok (.iload 4, 2) := by decide +kernel
theorem dX2_becomeSlopesOfRight_46 : decode cX2_becomeSlopesOfRight 46 = .ok (.iload 5, 2) := by decide +kernel
theorem dX2_becomeSlopesOfRight_48 : decode cX2_becomeSlopesOfRight 48 = .ok (.aload_n 3, 1) := by decide +kernel
theorem dX2_becomeSlopesOfRight_49 : decode cX2_becomeSlopesOfRight 49 = .ok (.iload 5, 2) := by decide +kernel
theorem dX2_becomeSlopesOfRight_51 : decode cX2_becomeSlopesOfRight 51 = .ok (.aload_n 1, 1) := by decide +kernel
theorem dX2_becomeSlopesOfRight_52 : decode cX2_becomeSlopesOfRight 52 = .ok (.iload 4, 2) := by decide +kernel
theorem dX2_becomeSlopesOfRight_54 : decode cX2_becomeSlopesOfRight 54 = .ok (.invokevirtual 100, 3) := by decide +kernel
theorem dX2_becomeSlopesOfRight_57 : decode cX2_becomeSlopesOfRight 57 = .ok (.invokevirtual 47, 3) := by decide +kernel
theorem dX2_becomeSlopesOfRight_60 : decode cX2_becomeSlopesOfRight 60 = .ok (.iinc 5 1, 3) := by decide +kernel
theorem dX2_becomeSlopesOfRight_63 : decode cX2_becomeSlopesOfRight 63 = .ok (.goto (-38), 3) := by decide +kernel
theorem dX2_becomeSlopesOfRight_66 : decode cX2_becomeSlopesOfRight 66 = .ok (.iinc 4 1, 3) := by decide +kernel
theorem dX2_becomeSlopesOfRight_69 : decode cX2_becomeSlopesOfRight 69 = .ok (.goto (-54), 3) := by decide +kernel
theorem dX2_becomeSlopesOfRight_72 : decode cX2_becomeSlopesOfRight 72 = .ok (.return_, 1) := by decide +kernel
theorem dX2_productOfRows_0 : decode cX2_productOfRows 0 = .ok (.lconst 0, 1) := by decide +kernel
theorem dX2_productOfRows_1 : decode cX2_productOfRows 1 = .ok (.lstore 4, 2) := by decide +kernel
theorem dX2_productOfRows_3 : decode cX2_productOfRows 3 = .ok (.iconst 0, 1) := by decide +kernel
theorem dX2_productOfRows_4 : decode cX2_productOfRows 4 = .ok (.istore 6, 2) := by decide +kernel
theorem dX2_productOfRows_6 : decode cX2_productOfRows 6 = .ok (.iload 6, 2) := by decide +kernel
theorem dX2_productOfRows_8 : decode cX2_productOfRows 8 = .ok (.bipush 16, 2) := by decide +kernel
theorem dX2_productOfRows_10 : decode cX2_productOfRows 10 = .ok (.if_icmp .ge 29, 3) := by decide +kernel
theorem dX2_productOfRows_13 : decode cX2_productOfRows 13 = .ok (.lload 4, 2) := by decide +kernel
theorem dX2_productOfRows_15 : decode cX2_productOfRows 15 = .ok (.aload_n 0, 1) := by decide +kernel
theorem dX2_productOfRows_16 : decode cX2_productOfRows 16 = .ok (.iload_n 1, 1) := by decide +kernel
theorem dX2_productOfRows_17 : decode cX2_productOfRows 17 = .ok (.iload 6, 2) := by decide +kernel
theorem dX2_productOfRows_19 : decode cX2_productOfRows 19 = .ok (.invokevirtual 43, 3) := by decide +kernel
theorem dX2_productOfRows_22 : decode cX2_productOfRows 22 = .ok (.aload_n 2, 1) := by decide +kernel
theorem dX2_productOfRows_23 : decode cX2_productOfRows 23 = .ok (.iload_n 3, 1) := by decide +kernel
theorem dX2_productOfRows_24 : decode cX2_productOfRows 24 = .ok (.iload 6, 2) := by decide +kernel
theorem dX2_productOfRows_26 : decode cX2_productOfRows 26 = .ok (.invokevirtual 43, 3) := by decide +kernel
theorem dX2_productOfRows_29 : decode cX2_productOfRows 29 = .ok (.lmul, 1) := by decide +kernel
theorem dX2_productOfRows_30 : decode cX2_productOfRows 30 = .ok (.ladd, 1) := by decide +kernel
theorem dX2_productOfRows_31 : decode cX2_productOfRows 31 = .ok (.lstore 4, 2) := by decide +kernel
theorem dX2_productOfRows_33 : decode cX2_productOfRows 33 = .ok (.iinc 6 1, 3) := by decide +kernel
theorem dX2_productOfRows_36 : decode cX2_productOfRows 36 = .ok (.goto (-30), 3) := by decide +kernel
theorem dX2_productOfRows_39 : decode cX2_productOfRows 39 = .ok (.lload 4, 2) := by decide +kernel
theorem dX2_productOfRows_41 : decode cX2_productOfRows 41 = .ok (.lreturn, 1) := by decide +kernel
theorem dX2_productOfColumns_0 : decode cX2_productOfColumns 0 = .ok (.lconst 0, 1) := by decide +kernel
theorem dX2_productOfColumns_1 : decode cX2_productOfColumns 1 = .ok (.lstore 4, 2) := by decide +kernel
theorem dX2_productOfColumns_3 : decode cX2_productOfColumns 3 = .ok (.iconst 0, 1) := by decide +kernel
theorem dX2_productOfColumns_4 : decode cX2_productOfColumns 4 = .ok (.istore 6, 2) := by decide +kernel
theorem dX2_productOfColumns_6 : decode cX2_productOfColumns 6 = .ok (.iload 6, 2) := by decide +kernel
theorem dX2_productOfColumns_8 : decode cX2_productOfColumns 8 = .ok (.bipush 16, 2) := by decide +kernel
theorem dX2_productOfColumns_10 : decode cX2_productOfColumns 10 = .ok (.if_icmp .ge 29, 3) := by decide +kernel
theorem dX2_productOfColumns_13 : decode cX2_productOfColumns 13 = .ok (.lload 4, 2) := by decide +kernel
theorem dX2_productOfColumns_15 : decode cX2_productOfColumns 15 = .ok (.aload_n 0, 1) := by decide +kernel
theorem dX2_productOfColumns_16 : decode cX2_productOfColumns 16 = .ok (.iload 6, 2) := by decide +kernel
theorem dX2_productOfColumns_18 : decode cX2_productOfColumns 18 = .ok (.iload_n 1, 1) := by decide +kernel
theorem dX2_productOfColumns_19 : decode cX2_productOfColumns 19 = .ok (.invokevirtual 43, 3) := by decide +kernel
theorem dX2_productOfColumns_22 : decode cX2_productOfColumns 22 = .ok (.aload_n 2, 1) := by decide +kernel
theorem dX2_productOfColumns_23 : decode cX2_productOfColumns 23 = .ok (.iload 6, 2) := by decide +kernel
theorem dX2_productOfColumns_25 : decode cX2_productOfColumns 25 = .ok (.iload_n 3, 1) := by decide +kernel
theorem dX2_productOfColumns_26 : decode cX2_productOfColumns 26 = .ok (.invokevirtual 43, 3) := by decide +kernel
theorem dX2_productOfColumns_29 : decode cX2_productOfColumns 29 = .ok (.lmul, 1) := by decide +kernel
theorem dX2_productOfColumns_30 : decode cX2_productOfColumns 30 = .ok (.ladd, 1) := by decide +kernel
theorem dX2_productOfColumns_31 : decode cX2_productOfColumns 31 = .ok (.lstore 4, 2) := by decide +kernel
theorem dX2_productOfColumns_33 : decode cX2_productOfColumns 33 = .ok (.iinc 6 1, 3) := by decide +kernel
theorem dX2_productOfColumns_36 : decode cX2_productOfColumns 36 = .ok (.goto (-30), 3) := by decide +kernel
theorem dX2_productOfColumns_39 : decode cX2_productOfColumns 39 = .ok (.lload 4, 2) := by decide +kernel
theorem dX2_productOfColumns_41 : decode cX2_productOfColumns 41 = .ok (.lreturn, 1) := by decide +kernel
theorem dX2_becomeBlocks_0 : decode cX2_becomeBlocks 0 = .ok (.iload_n 2, 1) := by decide +kernel
theorem dX2_becomeBlocks_1 : decode cX2_becomeBlocks 1 = .ok (.iconst 1, 1) := by decide +kernel
theorem dX2_becomeBlocks_2 : decode cX2_becomeBlocks 2 = .ok (.if_icmp .ge 4, 3) := by decide +kernel
theorem dX2_becomeBlocks_5 : decode cX2_becomeBlocks 5 = .ok (.return_, 1) := by decide +kernel
theorem dX2_becomeBlocks_6 : decode cX2_becomeBlocks 6 = .ok (.aload_n 0, 1) := by decide +kernel
theorem dX2_becomeBlocks_7 : decode cX2_becomeBlocks 7 = .ok (.aload_n 1, 1) := by decide +kernel
theorem dX2_becomeBlocks_8 : decode cX2_becomeBlocks 8 = .ok (.getfield 9, 3) := by decide +kernel
theorem dX2_becomeBlocks_11 : decode cX2_becomeBlocks 11 = .ok (.iload_n 2, 1) := by decide +kernel
theorem dX2_becomeBlocks_12 : decode cX2_becomeBlocks 12 = .ok (.iadd, 1) := by decide +kernel
theorem dX2_becomeBlocks_13 : decode cX2_becomeBlocks 13 = .ok (.iconst 1, 1) := by decide +kernel
theorem dX2_becomeBlocks_14 : decode cX2_becomeBlocks 14 = .ok (.isub, 1) := by decide +kernel
theorem dX2_becomeBlocks_15 : decode cX2_becomeBlocks 15 = .ok (.iload_n 2, 1) := by decide +kernel
theorem dX2_becomeBlocks_16 : decode cX2_becomeBlocks 16 = .ok (.idiv, 1) := by decide +kernel
theorem dX2_becomeBlocks_17 : decode cX2_becomeBlocks 17 = .ok (.aload_n 1, 1) := by decide +kernel
theorem dX2_becomeBlocks_18 : decode cX2_becomeBlocks 18 = .ok (.getfield 15, 3) := by decide +kernel
theorem dX2_becomeBlocks_21 : decode cX2_becomeBlocks 21 = .ok (.iload_n 2, 1) := by decide +kernel
theorem dX2_becomeBlocks_22 : decode cX2_becomeBlocks 22 = .ok (.iadd, 1) := by decide +kernel
theorem dX2_becomeBlocks_23 : decode cX2_becomeBlocks 23 = .ok (.iconst 1, 1) := by decide +kernel
theorem dX2_becomeBlocks_24 : decode cX2_becomeBlocks 24 = .ok (.isub, 1) := by decide +kernel
theorem dX2_becomeBlocks_25 : decode cX2_becomeBlocks 25 = .ok (.iload_n 2, 1) := by decide +kernel
theorem dX2_becomeBlocks_26 : decode cX2_becomeBlocks 26 = .ok (.idiv, 1) := by decide +kernel
theorem dX2_becomeBlocks_27 : decode cX2_becomeBlocks 27 = .ok (.invokevirtual 81, 3) := by decide +kernel
theorem dX2_becomeBlocks_30 : decode cX2_becomeBlocks 30 = .ok (.iconst 0, 1) := by decide +kernel
theorem dX2_becomeBlocks_31 : decode cX2_becomeBlocks 31 = .ok (.istore_n 3, 1) := by decide +kernel
theorem dX2_becomeBlocks_32 : decode cX2_becomeBlocks 32 = .ok (.iload_n 3, 1) := by decide +kernel
theorem dX2_becomeBlocks_33 : decode cX2_becomeBlocks 33 = .ok (.bipush 16, 2) := by decide +kernel
theorem dX2_becomeBlocks_35 : decode cX2_becomeBlocks 35 = .ok (.if_icmp .ge 47, 3) := by decide +kernel
theorem dX2_becomeBlocks_38 : decode cX2_becomeBlocks 38 = .ok (.iconst 0, 1) := by decide +kernel
theorem dX2_becomeBlocks_39 : decode cX2_becomeBlocks 39 = .ok (.istore 4, 2) := by decide +kernel
theorem dX2_becomeBlocks_41 : decode cX2_becomeBlocks 41 = .ok (.iload 4, 2) := by decide +kernel
theorem dX2_becomeBlocks_43 : decode cX2_becomeBlocks 43 = .ok (.bipush 16, 2) := by decide +kernel
theorem dX2_becomeBlocks_45 : decode cX2_becomeBlocks 45 = .ok (.if_icmp .ge 31, 3) := by decide +kernel
theorem dX2_becomeBlocks_48 : decode cX2_becomeBlocks 48 = .ok (.aload_n 1, 1) := by decide +kernel
theorem dX2_becomeBlocks_49 : decode cX2_becomeBlocks 49 = .ok (.iload_n 3, 1) := by decide +kernel
theorem dX2_becomeBlocks_50 : decode cX2_becomeBlocks 50 = .ok (.iload 4, 2) := by decide +kernel
theorem dX2_becomeBlocks_52 : decode cX2_becomeBlocks 52 = .ok (.invokevirtual 67, 3) := by decide +kernel
theorem dX2_becomeBlocks_55 : decode cX2_becomeBlocks 55 = .ok (.ifCond .eq 15, 3) := by decide +kernel
theorem dX2_becomeBlocks_58 : decode cX2_becomeBlocks 58 = .ok (.aload_n 0, 1) := by decide +kernel
theorem dX2_becomeBlocks_59 : decode cX2_becomeBlocks 59 = .ok (.iload_n 3, 1) := by decide +kernel
theorem dX2_becomeBlocks_60 : decode cX2_becomeBlocks 60 = .ok (.iload_n 2, 1) := by decide +kernel
theorem dX2_becomeBlocks_61 : decode cX2_becomeBlocks 61 = .ok (.idiv, 1) := by decide +kernel
theorem dX2_becomeBlocks_62 : decode cX2_becomeBlocks 62 = .ok (.iload 4, 2) := by decide +kernel
theorem dX2_becomeBlocks_64 : decode cX2_becomeBlocks 64 = .ok (.iload_n 2, 1) := by decide +kernel
theorem dX2_becomeBlocks_65 : decode cX2_becomeBlocks 65 = .ok (.idiv, 1) := by decide +kernel
theorem dX2_becomeBlocks_66 : decode cX2_becomeBlocks 66 = .ok (.lconst 0, 1) := by decide +kernel
theorem dX2_becomeBlocks_67 : decode cX2_becomeBlocks 67 = .ok (.invokevirtual 47, 3) := by decide +kernel
theorem dX2_becomeBlocks_70 : decode cX2_becomeBlocks 70 = .ok (.iinc 4 1, 3) := by decide +kernel
theorem dX2_becomeBlocks_73 : decode cX2_becomeBlocks 73 = .ok (.goto (-32), 3) := by decide +kernel
theorem dX2_becomeBlocks_76 : decode cX2_becomeBlocks 76 = .ok (.iinc 3 1, 3) := by decide +kernel
theorem dX2_becomeBlocks_79 : decode cX2_becomeBlocks 79 = .ok (.goto (-47), 3) := by decide +kernel
theorem dX2_becomeBlocks_82 : decode cX2_becomeBlocks 82 = .ok (.return_, 1) := by decide +kernel
theorem dX2_keepsOnSlant_0 : decode cX2_keepsOnSlant 0 = .ok (.iconst 0, 1) := by decide +kernel
theorem dX2_keepsOnSlant_1 : decode cX2_keepsOnSlant 1 = .ok (.istore_n 2, 1) := by decide +kernel
theorem dX2_keepsOnSlant_2 : decode cX2_keepsOnSlant 2 = .ok (.iload_n 2, 1) := by decide +kernel
theorem dX2_keepsOnSlant_3 : decode cX2_keepsOnSlant 3 = .ok (.bipush 16, 2) := by decide +kernel
theorem dX2_keepsOnSlant_5 : decode cX2_keepsOnSlant 5 = .ok (.if_icmp .ge 22, 3) := by decide +kernel
theorem dX2_keepsOnSlant_8 : decode cX2_keepsOnSlant 8 = .ok (.aload_n 0, 1) := by decide +kernel
theorem dX2_keepsOnSlant_9 : decode cX2_keepsOnSlant 9 = .ok (.iload_n 2, 1) := by decide +kernel
theorem dX2_keepsOnSlant_10 : decode cX2_keepsOnSlant 10 = .ok (.iload_n 2, 1) := by decide +kernel
theorem dX2_keepsOnSlant_11 : decode cX2_keepsOnSlant 11 = .ok (.iload_n 1, 1) := by decide +kernel
theorem dX2_keepsOnSlant_12 : decode cX2_keepsOnSlant 12 = .ok (.iadd, 1) := by decide +kernel
theorem dX2_keepsOnSlant_13 : decode cX2_keepsOnSlant 13 = .ok (.invokevirtual 67, 3) := by decide +kernel
theorem dX2_keepsOnSlant_16 : decode cX2_keepsOnSlant 16 = .ok (.ifCond .eq 5, 3) := by decide +kernel
theorem dX2_keepsOnSlant_19 : decode cX2_keepsOnSlant 19 = .ok (.iconst 1, 1) := by decide +kernel
theorem dX2_keepsOnSlant_20 : decode cX2_keepsOnSlant 20 = .ok (.ireturn, 1) := by decide +kernel
theorem dX2_keepsOnSlant_21 : decode cX2_keepsOnSlant 21 = .ok (.iinc 2 1, 3) := by decide +kernel
theorem dX2_keepsOnSlant_24 : decode cX2_keepsOnSlant 24 = .ok (.goto (-22), 3) := by decide +kernel
theorem dX2_keepsOnSlant_27 : decode cX2_keepsOnSlant 27 = .ok (.iconst 0, 1) := by decide +kernel
theorem dX2_keepsOnSlant_28 : decode cX2_keepsOnSlant 28 = .ok (.ireturn, 1) := by decide +kernel
theorem dX3_init_0 : decode cX3_init 0 = .ok (.aload_n 0, 1) := by decide +kernel
theorem dX3_init_1 : decode cX3_init 1 = .ok (.invokespecial 3, 3) := by decide +kernel
theorem dX3_init_4 : decode cX3_init 4 = .ok (.aload_n 0, 1) := by decide +kernel
theorem dX3_init_5 : decode cX3_init 5 = .ok (.iconst 0, 1) := by decide +kernel
theorem dX3_init_6 : decode cX3_init 6 = .ok (.putfield 9, 3) := by decide +kernel
theorem dX3_init_9 : decode cX3_init 9 = .ok (.aload_n 0, 1) := by decide +kernel
theorem dX3_init_10 : decode cX3_init 10 = .ok (.bipush 16, 2) := by decide +kernel
theorem dX3_init_12 : decode cX3_init 12 = .ok (.newarray .int, 2) := by decide +kernel
theorem dX3_init_14 : decode cX3_init 14 = .ok (.putfield 15, 3) := by decide +kernel
theorem dX3_init_17 : decode cX3_init 17 = .ok (.return_, 1) := by decide +kernel
theorem dX3_append_0 : decode cX3_append 0 = .ok (.aload_n 0, 1) := by decide +kernel
theorem dX3_append_1 : decode cX3_append 1 = .ok (.getfield 9, 3) := by decide +kernel
theorem dX3_append_4 : decode cX3_append 4 = .ok (.invokestatic 19, 3) := by decide +kernel
theorem dX3_append_7 : decode cX3_append 7 = .ok (.ifCond .eq 23, 3) := by decide +kernel
theorem dX3_append_10 : decode cX3_append 10 = .ok (.aload_n 0, 1) := by decide +kernel
theorem dX3_append_11 : decode cX3_append 11 = .ok (.getfield 15, 3) := by decide +kernel
theorem dX3_append_14 : decode cX3_append 14 = .ok (.aload_n 0, 1) := by decide +kernel
theorem dX3_append_15 : decode cX3_append 15 = .ok (.getfield 9, 3) := by decide +kernel
theorem dX3_append_18 : decode cX3_append 18 = .ok (.iload_n 1, 1) := by decide +kernel
theorem dX3_append_19 : decode cX3_append 19 = .ok (.iastore, 1) := by decide +kernel
theorem dX3_append_20 : decode cX3_append 20 = .ok (.aload_n 0, 1) := by decide +kernel
theorem dX3_append_21 : decode cX3_append 21 = .ok (.dup, 1) := by decide +kernel
theorem dX3_append_22 : decode cX3_append 22 = .ok (.getfield 9, 3) := by decide +kernel
theorem dX3_append_25 : decode cX3_append 25 = .ok (.iconst 1, 1) := by decide +kernel
theorem dX3_append_26 : decode cX3_append 26 = .ok (.iadd, 1) := by decide +kernel
theorem dX3_append_27 : decode cX3_append 27 = .ok (.putfield 9, 3) := by decide +kernel
theorem dX3_append_30 : decode cX3_append 30 = .ok (.return_, 1) := by decide +kernel
theorem dX3_clear_0 : decode cX3_clear 0 = .ok (.aload_n 0, 1) := by decide +kernel
theorem dX3_clear_1 : decode cX3_clear 1 = .ok (.iconst 0, 1) := by decide +kernel
theorem dX3_clear_2 : decode cX3_clear 2 = .ok (.putfield 9, 3) := by decide +kernel
theorem dX3_clear_5 : decode cX3_clear 5 = .ok (.return_, 1) := by decide +kernel
theorem dX3_item_0 : decode cX3_item 0 = .ok (.iload_n 1, 1) := by decide +kernel
theorem dX3_item_1 : decode cX3_item 1 = .ok (.invokestatic 19, 3) := by decide +kernel
theorem dX3_item_4 : decode cX3_item 4 = .ok (.ifCond .eq 12, 3) := by decide +kernel
theorem dX3_item_7 : decode cX3_item 7 = .ok (.aload_n 0, 1) := by decide +kernel
theorem dX3_item_8 : decode cX3_item 8 = .ok (.getfield 15, 3) := by decide +kernel
theorem dX3_item_11 : decode cX3_item 11 = .ok (.iload_n 1, 1) := by decide +kernel
theorem dX3_item_12 : decode cX3_item 12 = .ok (.iaload, 1) := by decide +kernel
theorem dX3_item_13 : decode cX3_item 13 = .ok (.goto 4, 3) := by decide +kernel
theorem dX3_item_16 : decode cX3_item 16 = .ok (.iconst 0, 1) := by decide +kernel
theorem dX3_item_17 : decode cX3_item 17 = .ok (.ireturn, 1) := by decide +kernel
theorem dX3_areBelow_0 : decode cX3_areBelow 0 = .ok (.iconst 0, 1) := by decide +kernel
theorem dX3_areBelow_1 : decode cX3_areBelow 1 = .ok (.istore_n 2, 1) := by decide +kernel
theorem dX3_areBelow_2 : decode cX3_areBelow 2 = .ok (.iload_n 2, 1) := by decide +kernel
theorem dX3_areBelow_3 : decode cX3_areBelow 3 = .ok (.bipush 16, 2) := by decide +kernel
theorem dX3_areBelow_5 : decode cX3_areBelow 5 = .ok (.if_icmp .ge 29, 3) := by decide +kernel
theorem dX3_areBelow_8 : decode cX3_areBelow 8 = .ok (.iload_n 2, 1) := by decide +kernel
theorem dX3_areBelow_9 : decode cX3_areBelow 9 = .ok (.aload_n 0, 1) := by decide +kernel
theorem dX3_areBelow_10 : decode cX3_areBelow 10 = .ok (.getfield 9, 3) := by decide +kernel
theorem dX3_areBelow_13 : decode cX3_areBelow 13 = .ok (.if_icmp .ge 21, 3) := by decide +kernel
theorem dX3_areBelow_16 : decode cX3_areBelow 16 = .ok (.aload_n 0, 1) := by decide +kernel
theorem dX3_areBelow_17 : decode cX3_areBelow 17 = .ok (.getfield 15, 3) := by decide +kernel
theorem dX3_areBelow_20 : decode cX3_areBelow 20 = .ok (.iload_n 2, 1) := by decide +kernel
theorem dX3_areBelow_21 : decode cX3_areBelow 21 = .ok (.iaload, 1) := by decide +kernel
theorem dX3_areBelow_22 : decode cX3_areBelow 22 = .ok (.iload_n 1, 1) := by decide +kernel
theorem dX3_areBelow_23 : decode cX3_areBelow 23 = .ok (.if_icmp .lt 5, 3) := by decide +kernel
theorem dX3_areBelow_26 : decode cX3_areBelow 26 = .ok (.iconst 0, 1) := by decide +kernel
theorem dX3_areBelow_27 : decode cX3_areBelow 27 = .ok (.ireturn, 1) := by decide +kernel
theorem dX3_areBelow_28 : decode cX3_areBelow 28 = .ok (.iinc 2 1, 3) := by decide +kernel
theorem dX3_areBelow_31 : decode cX3_areBelow 31 = .ok (.goto (-29), 3) := by decide +kernel
theorem dX3_areBelow_34 : decode cX3_areBelow 34 = .ok (.iconst 1, 1) := by decide +kernel
theorem dX3_areBelow_35 : decode cX3_areBelow 35 = .ok (.ireturn, 1) := by decide +kernel
theorem dX3_areEachBelowOnce_0 : decode cX3_areEachBelowOnce 0 = .ok (.iconst 0, 1) := by decide +kernel
theorem dX3_areEachBelowOnce_1 : decode cX3_areEachBelowOnce 1 = .ok (.istore_n 2, 1) := by decide +kernel
theorem dX3_areEachBelowOnce_2 : decode cX3_areEachBelowOnce 2 = .ok (.iconst 0, 1) := by decide +kernel
theorem dX3_areEachBelowOnce_3 : decode cX3_areEachBelowOnce 3 = .ok (.istore_n 3, 1) := by decide +kernel
theorem dX3_areEachBelowOnce_4 : decode cX3_areEachBelowOnce 4 = .ok (.iload_n 3, 1) := by decide +kernel
theorem dX3_areEachBelowOnce_5 : decode cX3_areEachBelowOnce 5 = .ok (.bipush 16, 2) := by decide +kernel
theorem dX3_areEachBelowOnce_7 : decode cX3_areEachBelowOnce 7 = .ok (.if_icmp .ge 28, 3) := by decide +kernel
theorem dX3_areEachBelowOnce_10 : decode cX3_areEachBelowOnce 10 = .ok (.iload_n 3, 1) := by decide +kernel
theorem dX3_areEachBelowOnce_11 : decode cX3_areEachBelowOnce 11 = .ok (.aload_n 0, 1) := by decide +kernel
theorem dX3_areEachBelowOnce_12 : decode cX3_areEachBelowOnce 12 = .ok (.getfield 9, 3) := by decide +kernel
theorem dX3_areEachBelowOnce_15 : decode cX3_areEachBelowOnce 15 = .ok (.if_icmp .ge 20, 3) := by decide +kernel
theorem dX3_areEachBelowOnce_18 : decode cX3_areEachBelowOnce 18 = .ok (.iload_n 2, 1) := by decide +kernel
theorem dX3_areEachBelowOnce_19 : decode cX3_areEachBelowOnce 19 = .ok (.iconst 1, 1) := by decide +kernel
theorem dX3_areEachBelowOnce_20 : decode cX3_areEachBelowOnce 20 = .ok (.aload_n 0, 1) := by decide +kernel
theorem dX3_areEachBelowOnce_21 : decode cX3_areEachBelowOnce 21 = .ok (.getfield 15, 3) := by decide +kernel
theorem dX3_areEachBelowOnce_24 : decode cX3_areEachBelowOnce 24 = .ok (.iload_n 3, 1) := by decide +kernel
theorem dX3_areEachBelowOnce_25 : decode cX3_areEachBelowOnce 25 = .ok (.iaload, 1) := by decide +kernel
theorem dX3_areEachBelowOnce_26 : decode cX3_areEachBelowOnce 26 = .ok (.ishl, 1) := by decide +kernel
theorem dX3_areEachBelowOnce_27 : decode cX3_areEachBelowOnce 27 = .ok (.ior, 1) := by decide +kernel
theorem dX3_areEachBelowOnce_28 : decode cX3_areEachBelowOnce 28 = .ok (.istore_n 2, 1) := by decide +kernel
theorem dX3_areEachBelowOnce_29 : decode cX3_areEachBelowOnce 29 = .ok (.iinc 3 1, 3) := by decide +kernel
theorem dX3_areEachBelowOnce_32 : decode cX3_areEachBelowOnce 32 = .ok (.goto (-28), 3) := by decide +kernel
theorem dX3_areEachBelowOnce_35 : decode cX3_areEachBelowOnce 35 = .ok (.aload_n 0, 1) := by decide +kernel
theorem dX3_areEachBelowOnce_36 : decode cX3_areEachBelowOnce 36 = .ok (.getfield 9, 3) := by decide +kernel
theorem dX3_areEachBelowOnce_39 : decode cX3_areEachBelowOnce 39 = .ok (.iload_n 1, 1) := by decide +kernel
theorem dX3_areEachBelowOnce_40 : decode cX3_areEachBelowOnce 40 = .ok (.if_icmp .ne 23, 3) := by decide +kernel
theorem dX3_areEachBelowOnce_43 : decode cX3_areEachBelowOnce 43 = .ok (.aload_n 0, 1) := by decide +kernel
theorem dX3_areEachBelowOnce_44 : decode cX3_areEachBelowOnce 44 = .ok (.iload_n 1, 1) := by decide +kernel
theorem dX3_areEachBelowOnce_45 : decode cX3_areEachBelowOnce 45 = .ok (.invokevirtual 23, 3) := by decide +kernel
theorem dX3_areEachBelowOnce_48 : decode cX3_areEachBelowOnce 48 = .ok (.ifCond .eq 15, 3) := by decide +kernel
theorem dX3_areEachBelowOnce_51 : decode cX3_areEachBelowOnce 51 = .ok (.iload_n 2, 1) := by decide +kernel
theorem dX3_areEachBelowOnce_52 : decode cX3_areEachBelowOnce 52 = .ok (.invokestatic 26, 3) := by decide +kernel
theorem dX3_areEachBelowOnce_55 : decode cX3_areEachBelowOnce 55 = .ok (.iload_n 1, 1) := by decide +kernel
theorem dX3_areEachBelowOnce_56 : decode cX3_areEachBelowOnce 56 = .ok (.if_icmp .ne 7, 3) := by decide +kernel
theorem dX3_areEachBelowOnce_59 : decode cX3_areEachBelowOnce 59 = .ok (.iconst 1, 1) := by decide +kernel
theorem dX3_areEachBelowOnce_60 : decode cX3_areEachBelowOnce 60 = .ok (.goto 4, 3) := by decide +kernel
theorem dX3_areEachBelowOnce_63 : decode cX3_areEachBelowOnce 63 = .ok (.iconst 0, 1) := by decide +kernel
theorem dX3_areEachBelowOnce_64 : decode cX3_areEachBelowOnce 64 = .ok (.ireturn, 1) := by decide +kernel
theorem dX4_init_0 : decode cX4_init 0 = .ok (.aload_n 0, 1) := by decide +kernel
theorem dX4_init_1 : decode cX4_init 1 = .ok (.invokespecial 3, 3) := by decide +kernel
theorem dX4_init_4 : decode cX4_init 4 = .ok (.aload_n 0, 1) := by decide +kernel
theorem dX4_init_5 : decode cX4_init 5 = .ok (.iconst 0, 1) := by decide +kernel
theorem dX4_init_6 : decode cX4_init 6 = .ok (.putfield 9, 3) := by decide +kernel
theorem dX4_init_9 : decode cX4_init 9 = .ok (.aload_n 0, 1) := by decide +kernel
theorem dX4_init_10 : decode cX4_init 10 = .ok (.bipush 64, 2) := by decide +kernel
theorem dX4_init_12 : decode cX4_init 12 = .ok (.newarray .int, 2) := by decide +kernel
theorem dX4_init_14 : decode cX4_init 14 = .ok (.putfield 15, 3) := by decide +kernel
theorem dX4_init_17 : decode cX4_init 17 = .ok (.aload_n 0, 1) := by decide +kernel
theorem dX4_init_18 : decode cX4_init 18 = .ok (.bipush 64, 2) := by decide +kernel
theorem dX4_init_20 : decode cX4_init 20 = .ok (.newarray .int, 2) := by decide +kernel
theorem dX4_init_22 : decode cX4_init 22 = .ok (.putfield 19, 3) := by decide +kernel
theorem dX4_init_25 : decode cX4_init 25 = .ok (.aload_n 0, 1) := by decide +kernel
theorem dX4_init_26 : decode cX4_init 26 = .ok (.bipush 64, 2) := by decide +kernel
theorem dX4_init_28 : decode cX4_init 28 = .ok (.newarray .long, 2) := by decide +kernel
theorem dX4_init_30 : decode cX4_init 30 = .ok (.putfield 22, 3) := by decide +kernel
theorem dX4_init_33 : decode cX4_init 33 = .ok (.return_, 1) := by decide +kernel
theorem dX4_append_0 : decode cX4_append 0 = .ok (.aload_n 0, 1) := by decide +kernel
theorem dX4_append_1 : decode cX4_append 1 = .ok (.getfield 9, 3) := by decide +kernel
theorem dX4_append_4 : decode cX4_append 4 = .ok (.ifCond .lt 52, 3) := by decide +kernel
theorem dX4_append_7 : decode cX4_append 7 = .ok (.aload_n 0, 1) := by decide +kernel
theorem dX4_append_8 : decode cX4_append 8 = .ok (.getfield 9, 3) := by decide +kernel
theorem dX4_append_11 : decode cX4_append 11 = .ok (.bipush 64, 2) := by decide +kernel
theorem dX4_append_13 : decode cX4_append 13 = .ok (.if_icmp .ge 43, 3) := by decide +kernel
theorem dX4_append_16 : decode cX4_append 16 = .ok (.aload_n 0, 1) := by decide +kernel
theorem dX4_append_17 : decode cX4_append 17 = .ok (.getfield 15, 3) := by decide +kernel
theorem dX4_append_20 : decode cX4_append 20 = .ok (.aload_n 0, 1) := by decide +kernel
theorem dX4_append_21 : decode cX4_append 21 = .ok (.getfield 9, 3) := by decide +kernel
theorem dX4_append_24 : decode cX4_append 24 = .ok (.iload_n 1, 1) := by decide +kernel
theorem dX4_append_25 : decode cX4_append 25 = .ok (.iastore, 1) := by decide +kernel
theorem dX4_append_26 : decode cX4_append 26 = .ok (.aload_n 0, 1) := by decide +kernel
theorem dX4_append_27 : decode cX4_append 27 = .ok (.getfield 19, 3) := by decide +kernel
theorem dX4_append_30 : decode cX4_append 30 = .ok (.aload_n 0, 1) := by decide +kernel
theorem dX4_append_31 : decode cX4_append 31 = .ok (.getfield 9, 3) := by decide +kernel
theorem dX4_append_34 : decode cX4_append 34 = .ok (.iload_n 2, 1) := by decide +kernel
theorem dX4_append_35 : decode cX4_append 35 = .ok (.iastore, 1) := by decide +kernel
theorem dX4_append_36 : decode cX4_append 36 = .ok (.aload_n 0, 1) := by decide +kernel
theorem dX4_append_37 : decode cX4_append 37 = .ok (.getfield 22, 3) := by decide +kernel
theorem dX4_append_40 : decode cX4_append 40 = .ok (.aload_n 0, 1) := by decide +kernel
theorem dX4_append_41 : decode cX4_append 41 = .ok (.getfield 9, 3) := by decide +kernel
theorem dX4_append_44 : decode cX4_append 44 = .ok (.lload_n 3, 1) := by decide +kernel
theorem dX4_append_45 : decode cX4_append 45 = .ok (.lastore, 1) := by decide +kernel
theorem dX4_append_46 : decode cX4_append 46 = .ok (.aload_n 0, 1) := by decide +kernel
theorem dX4_append_47 : decode cX4_append 47 = .ok (.dup, 1) := by decide +kernel
theorem dX4_append_48 : decode cX4_append 48 = .ok (.getfield 9, 3) := by decide +kernel
theorem dX4_append_51 : decode cX4_append 51 = .ok (.iconst 1, 1) := by decide +kernel
theorem dX4_append_52 : decode cX4_append 52 = .ok (.iadd, 1) := by decide +kernel
theorem dX4_append_53 : decode cX4_append 53 = .ok (.putfield 9, 3) := by decide +kernel
theorem dX4_append_56 : decode cX4_append 56 = .ok (.return_, 1) := by decide +kernel
theorem dX4_clear_0 : decode cX4_clear 0 = .ok (.aload_n 0, 1) := by decide +kernel
theorem dX4_clear_1 : decode cX4_clear 1 = .ok (.iconst 0, 1) := by decide +kernel
theorem dX4_clear_2 : decode cX4_clear 2 = .ok (.putfield 9, 3) := by decide +kernel
theorem dX4_clear_5 : decode cX4_clear 5 = .ok (.return_, 1) := by decide +kernel
theorem dX4_lieIn_0 : decode cX4_lieIn 0 = .ok (.iconst 0, 1) := by decide +kernel
theorem dX4_lieIn_1 : decode cX4_lieIn 1 = .ok (.istore_n 2, 1) := by decide +kernel
theorem dX4_lieIn_2 : decode cX4_lieIn 2 = .ok (.iload_n 2, 1) := by decide +kernel
theorem dX4_lieIn_3 : decode cX4_lieIn 3 = .ok (.bipush 64, 2) := by decide +kernel
theorem dX4_lieIn_5 : decode cX4_lieIn 5 = .ok (.if_icmp .ge 38, 3) := by decide +kernel
theorem dX4_lieIn_8 : decode cX4_lieIn 8 = .ok (.iload_n 2, 1) := by decide +kernel
theorem dX4_lieIn_9 : decode cX4_lieIn 9 = .ok (.aload_n 0, 1) := by decide +kernel
theorem dX4_lieIn_10 : decode cX4_lieIn 10 = .ok (.getfield 9, 3) := by decide +kernel
theorem dX4_lieIn_13 : decode cX4_lieIn 13 = .ok (.if_icmp .ge 30, 3) := by decide +kernel
theorem dX4_lieIn_16 : decode cX4_lieIn 16 = .ok (.aload_n 1, 1) := by decide +kernel
theorem dX4_lieIn_17 : decode cX4_lieIn 17 = .ok (.aload_n 0, 1) := by decide +kernel
theorem dX4_lieIn_18 : decode cX4_lieIn 18 = .ok (.getfield 15, 3) := by decide +kernel
theorem dX4_lieIn_21 : decode cX4_lieIn 21 = .ok (.iload_n 2, 1) := by decide +kernel
theorem dX4_lieIn_22 : decode cX4_lieIn 22 = .ok (.iaload, 1) := by decide +kernel
theorem dX4_lieIn_23 : decode cX4_lieIn 23 = .ok (.aload_n 0, 1) := by decide +kernel
theorem dX4_lieIn_24 : decode cX4_lieIn 24 = .ok (.getfield 19, 3) := by decide +kernel
theorem dX4_lieIn_27 : decode cX4_lieIn 27 = .ok (.iload_n 2, 1) := by decide +kernel
theorem dX4_lieIn_28 : decode cX4_lieIn 28 = .ok (.iaload, 1) := by decide +kernel
theorem dX4_lieIn_29 : decode cX4_lieIn 29 = .ok (.invokevirtual 26, 3) := by decide +kernel
theorem dX4_lieIn_32 : decode cX4_lieIn 32 = .ok (.ifCond .ne 5, 3) := by decide +kernel
theorem dX4_lieIn_35 : decode cX4_lieIn 35 = .ok (.iconst 0, 1) := by decide +kernel
theorem dX4_lieIn_36 : decode cX4_lieIn 36 = .ok (.ireturn, 1) := by decide +kernel
theorem dX4_lieIn_37 : decode cX4_lieIn 37 = .ok (.iinc 2 1, 3) := by decide +kernel
theorem dX4_lieIn_40 : decode cX4_lieIn 40 = .ok (.goto (-38), 3) := by decide +kernel
theorem dX4_lieIn_43 : decode cX4_lieIn 43 = .ok (.iconst 1, 1) := by decide +kernel
theorem dX4_lieIn_44 : decode cX4_lieIn 44 = .ok (.ireturn, 1) := by decide +kernel
theorem dX4_addTo_0 : decode cX4_addTo 0 = .ok (.iconst 0, 1) := by decide +kernel
theorem dX4_addTo_1 : decode cX4_addTo 1 = .ok (.istore_n 2, 1) := by decide +kernel
theorem dX4_addTo_2 : decode cX4_addTo 2 = .ok (.iload_n 2, 1) := by decide +kernel
theorem dX4_addTo_3 : decode cX4_addTo 3 = .ok (.bipush 64, 2) := by decide +kernel
theorem dX4_addTo_5 : decode cX4_addTo 5 = .ok (.if_icmp .ge 39, 3) := by decide +kernel
theorem dX4_addTo_8 : decode cX4_addTo 8 = .ok (.iload_n 2, 1) := by decide +kernel
theorem dX4_addTo_9 : decode cX4_addTo 9 = .ok (.aload_n 0, 1) := by decide +kernel
theorem dX4_addTo_10 : decode cX4_addTo 10 = .ok (.getfield 9, 3) := by decide +kernel
theorem dX4_addTo_13 : decode cX4_addTo 13 = .ok (.if_icmp .ge 31, 3) := by decide +kernel
theorem dX4_addTo_16 : decode cX4_addTo 16 = .ok (.aload_n 1, 1) := by decide +kernel
theorem dX4_addTo_17 : decode cX4_addTo 17 = .ok (.aload_n 0, 1) := by decide +kernel
theorem dX4_addTo_18 : decode cX4_addTo 18 = .ok (.getfield 15, 3) := by decide +kernel
theorem dX4_addTo_21 : decode cX4_addTo 21 = .ok (.iload_n 2, 1) := by decide +kernel
theorem dX4_addTo_22 : decode cX4_addTo 22 = .ok (.iaload, 1) := by decide +kernel
theorem dX4_addTo_23 : decode cX4_addTo 23 = .ok (.aload_n 0, 1) := by decide +kernel
theorem dX4_addTo_24 : decode cX4_addTo 24 = .ok (.getfield 19, 3) := by decide +kernel
theorem dX4_addTo_27 : decode cX4_addTo 27 = .ok (.iload_n 2, 1) := by decide +kernel
theorem dX4_addTo_28 : decode cX4_addTo 28 = .ok (.iaload, 1) := by decide +kernel
theorem dX4_addTo_29 : decode cX4_addTo 29 = .ok (.aload_n 0, 1) := by decide +kernel
theorem dX4_addTo_30 : decode cX4_addTo 30 = .ok (.getfield 22, 3) := by decide +kernel
theorem dX4_addTo_33 : decode cX4_addTo 33 = .ok (.iload_n 2, 1) := by decide +kernel
theorem dX4_addTo_34 : decode cX4_addTo 34 = .ok (.laload, 1) := by decide +kernel
theorem dX4_addTo_35 : decode cX4_addTo 35 = .ok (.invokevirtual 32, 3) := by decide +kernel
theorem dX4_addTo_38 : decode cX4_addTo 38 = .ok (.iinc 2 1, 3) := by decide +kernel
theorem dX4_addTo_41 : decode cX4_addTo 41 = .ok (.goto (-39), 3) := by decide +kernel
theorem dX4_addTo_44 : decode cX4_addTo 44 = .ok (.return_, 1) := by decide +kernel
theorem dX5_init_0 : decode cX5_init 0 = .ok (.aload_n 0, 1) := by decide +kernel
theorem dX5_init_1 : decode cX5_init 1 = .ok (.invokespecial 1, 3) := by decide +kernel
theorem dX5_init_4 : decode cX5_init 4 = .ok (.aload_n 0, 1) := by decide +kernel
theorem dX5_init_5 : decode cX5_init 5 = .ok (.bipush 8, 2) := by decide +kernel
theorem dX5_init_7 : decode cX5_init 7 = .ok (.anewarray 9, 3) := by decide +kernel
theorem dX5_init_10 : decode cX5_init 10 = .ok (.putfield 11, 3) := by decide +kernel
theorem dX5_init_13 : decode cX5_init 13 = .ok (.aload_n 0, 1) := by decide +kernel
theorem dX5_init_14 : decode cX5_init 14 = .ok (.new 15, 3) := by decide +kernel
theorem dX5_init_17 : decode cX5_init 17 = .ok (.dup, 1) := by decide +kernel
theorem dX5_init_18 : decode cX5_init 18 = .ok (.invokespecial 17, 3) := by decide +kernel
theorem dX5_init_21 : decode cX5_init 21 = .ok (.putfield 18, 3) := by decide +kernel
theorem dX5_init_24 : decode cX5_init 24 = .ok (.aload_n 0, 1) := by decide +kernel
theorem dX5_init_25 : decode cX5_init 25 = .ok (.new 22, 3) := by decide +kernel
theorem dX5_init_28 : decode cX5_init 28 = .ok (.dup, 1) := by decide +kernel
theorem dX5_init_29 : decode cX5_init 29 = .ok (.invokespecial 24, 3) := by decide +kernel
theorem dX5_init_32 : decode cX5_init 32 = .ok (.putfield 25, 3) := by decide +kernel
theorem dX5_init_35 : decode cX5_init 35 = .ok (.aload_n 0, 1) := by decide +kernel
theorem dX5_init_36 : decode cX5_init 36 = .ok (.new 9, 3) := by decide +kernel
theorem dX5_init_39 : decode cX5_init 39 = .ok (.dup, 1) := by decide +kernel
theorem dX5_init_40 : decode cX5_init 40 = .ok (.invokespecial 29, 3) := by decide +kernel
theorem dX5_init_43 : decode cX5_init 43 = .ok (.putfield 30, 3) := by decide +kernel
theorem dX5_init_46 : decode cX5_init 46 = .ok (.aload_n 0, 1) := by decide +kernel
theorem dX5_init_47 : decode cX5_init 47 = .ok (.new 34, 3) := by decide +kernel
theorem dX5_init_50 : decode cX5_init 50 = .ok (.dup, 1) := by decide +kernel
theorem dX5_init_51 : decode cX5_init 51 = .ok (.invokespecial 36, 3) := by decide +kernel
theorem dX5_init_54 : decode cX5_init 54 = .ok (.putfield 37, 3) := by decide +kernel
theorem dX5_init_57 : decode cX5_init 57 = .ok (.aload_n 0, 1) := by decide +kernel
theorem dX5_init_58 : decode cX5_init 58 = .ok (.new 34, 3) := by decide +kernel
theorem dX5_init_61 : decode cX5_init 61 = .ok (.dup, 1) := by decide +kernel
theorem dX5_init_62 : decode cX5_init 62 = .ok (.invokespecial 36, 3) := by decide +kernel
theorem dX5_init_65 : decode cX5_init 65 = .ok (.putfield 41, 3) := by decide +kernel
theorem dX5_init_68 : decode cX5_init 68 = .ok (.iconst 0, 1) := by decide +kernel
theorem dX5_init_69 : decode cX5_init 69 = .ok (.istore_n 1, 1) := by decide +kernel
theorem dX5_init_70 : decode cX5_init 70 = .ok (.iload_n 1, 1) := by decide +kernel
theorem dX5_init_71 : decode cX5_init 71 = .ok (.bipush 8, 2) := by decide +kernel
theorem dX5_init_73 : decode cX5_init 73 = .ok (.if_icmp .ge 22, 3) := by decide +kernel
theorem dX5_init_76 : decode cX5_init 76 = .ok (.aload_n 0, 1) := by decide +kernel
theorem dX5_init_77 : decode cX5_init 77 = .ok (.getfield 11, 3) := by decide +kernel
theorem dX5_init_80 : decode cX5_init 80 = .ok (.iload_n 1, 1) := by decide +kernel
theorem dX5_init_81 : decode cX5_init 81 = .ok (.new 9, 3) := by decide +kernel
theorem dX5_init_84 : decode cX5_init 84 = .ok (.dup, 1) := by decide +kernel
theorem dX5_init_85 : decode cX5_init 85 = .ok (.invokespecial 29, 3) := by decide +kernel
theorem dX5_init_88 : decode cX5_init 88 = .ok (.aastore, 1) := by decide +kernel
theorem dX5_init_89 : decode cX5_init 89 = .ok (.iinc 1 1, 3) := by decide +kernel
theorem dX5_init_92 : decode cX5_init 92 = .ok (.goto (-22), 3) := by decide +kernel
theorem dX5_init_95 : decode cX5_init 95 = .ok (.return_, 1) := by decide +kernel
theorem dX5_table_0 : decode cX5_table 0 = .ok (.iload_n 1, 1) := by decide +kernel
theorem dX5_table_1 : decode cX5_table 1 = .ok (.invokestatic 44, 3) := by decide +kernel
theorem dX5_table_4 : decode cX5_table 4 = .ok (.ifCond .ne 5, 3) := by decide +kernel
theorem dX5_table_7 : decode cX5_table 7 = .ok (.iconst (-1), 1) := by decide +kernel
theorem dX5_table_8 : decode cX5_table 8 = .ok (.ireturn, 1) := by decide +kernel
theorem dX5_table_9 : decode cX5_table 9 = .ok (.iload_n 2, 1) := by decide +kernel
theorem dX5_table_10 : decode cX5_table 10 = .ok (.invokestatic 48, 3) := by decide +kernel
theorem dX5_table_13 : decode cX5_table 13 = .ok (.ifCond .eq 10, 3) := by decide +kernel
theorem dX5_table_16 : decode cX5_table 16 = .ok (.iload_n 3, 1) := by decide +kernel
theorem dX5_table_17 : decode cX5_table 17 = .ok (.invokestatic 48, 3) := by decide +kernel
theorem dX5_table_20 : decode cX5_table 20 = .ok (.ifCond .ne 6, 3) := by decide +kernel
theorem dX5_table_23 : decode cX5_table 23 = .ok (.bipush (-2), 2) := by decide +kernel
theorem dX5_table_25 : decode cX5_table 25 = .ok (.ireturn, 1) := by decide +kernel
theorem dX5_table_26 : decode cX5_table 26 = .ok (.aload_n 0, 1) := by decide +kernel
theorem dX5_table_27 : decode cX5_table 27 = .ok (.getfield 30, 3) := by decide +kernel
theorem dX5_table_30 : decode cX5_table 30 = .ok (.iload_n 2, 1) := by decide +kernel
theorem dX5_table_31 : decode cX5_table 31 = .ok (.iload_n 3, 1) := by decide +kernel
theorem dX5_table_32 : decode cX5_table 32 = .ok (.invokevirtual 51, 3) := by decide +kernel
theorem dX5_table_35 : decode cX5_table 35 = .ok (.aload_n 0, 1) := by decide +kernel
theorem dX5_table_36 : decode cX5_table 36 = .ok (.iload_n 1, 1) := by decide +kernel
theorem dX5_table_37 : decode cX5_table 37 = .ok (.invokevirtual 55, 3) := by decide +kernel
theorem dX5_table_40 : decode cX5_table 40 = .ok (.pop, 1) := by decide +kernel
theorem dX5_table_41 : decode cX5_table 41 = .ok (.iconst 1, 1) := by decide +kernel
theorem dX5_table_42 : decode cX5_table 42 = .ok (.ireturn, 1) := by decide +kernel
theorem dX5_triple_0 : decode cX5_triple 0 = .ok (.iload_n 1, 1) := by decide +kernel
theorem dX5_triple_1 : decode cX5_triple 1 = .ok (.invokestatic 59, 3) := by decide +kernel
theorem dX5_triple_4 : decode cX5_triple 4 = .ok (.ifCond .eq 10, 3) := by decide +kernel
theorem dX5_triple_7 : decode cX5_triple 7 = .ok (.iload_n 2, 1) := by decide +kernel
theorem dX5_triple_8 : decode cX5_triple 8 = .ok (.invokestatic 59, 3) := by decide +kernel
theorem dX5_triple_11 : decode cX5_triple 11 = .ok (.ifCond .ne 6, 3) := by decide +kernel
theorem dX5_triple_14 : decode cX5_triple 14 = .ok (.bipush (-2), 2) := by decide +kernel
theorem dX5_triple_16 : decode cX5_triple 16 = .ok (.ireturn, 1) := by decide +kernel
theorem dX5_triple_17 : decode cX5_triple 17 = .ok (.aload_n 0, 1) := by decide +kernel
theorem dX5_triple_18 : decode cX5_triple 18 = .ok (.getfield 18, 3) := by decide +kernel
theorem dX5_triple_21 : decode cX5_triple 21 = .ok (.getfield 62, 3) := by decide +kernel
theorem dX5_triple_24 : decode cX5_triple 24 = .ok (.bipush 64, 2) := by decide +kernel
theorem dX5_triple_26 : decode cX5_triple 26 = .ok (.if_icmp .lt 6, 3) := by decide +kernel
theorem dX5_triple_29 : decode cX5_triple 29 = .ok (.bipush (-4), 2) := by decide +kernel
theorem dX5_triple_31 : decode cX5_triple 31 = .ok (.ireturn, 1) := by decide +kernel
theorem dX5_triple_32 : decode cX5_triple 32 = .ok (.aload_n 0, 1) := by decide +kernel
theorem dX5_triple_33 : decode cX5_triple 33 = .ok (.getfield 18, 3) := by decide +kernel
theorem dX5_triple_36 : decode cX5_triple 36 = .ok (.iload_n 1, 1) := by decide +kernel
theorem dX5_triple_37 : decode cX5_triple 37 = .ok (.iload_n 2, 1) := by decide +kernel
theorem dX5_triple_38 : decode cX5_triple 38 = .ok (.lload_n 3, 1) := by decide +kernel
theorem dX5_triple_39 : decode cX5_triple 39 = .ok (.invokevirtual 66, 3) := by decide +kernel
theorem dX5_triple_42 : decode cX5_triple 42 = .ok (.aload_n 0, 1) := by decide +kernel
theorem dX5_triple_43 : decode cX5_triple 43 = .ok (.getfield 18, 3) := by decide +kernel
theorem dX5_triple_46 : decode cX5_triple 46 = .ok (.getfield 62, 3) := by decide +kernel
theorem dX5_triple_49 : decode cX5_triple 49 = .ok (.ireturn, 1) := by decide +kernel
theorem dX5_list_0 : decode cX5_list 0 = .ok (.iload_n 1, 1) := by decide +kernel
theorem dX5_list_1 : decode cX5_list 1 = .ok (.invokestatic 59, 3) := by decide +kernel
theorem dX5_list_4 : decode cX5_list 4 = .ok (.ifCond .ne 6, 3) := by decide +kernel
theorem dX5_list_7 : decode cX5_list 7 = .ok (.bipush (-2), 2) := by decide +kernel
theorem dX5_list_9 : decode cX5_list 9 = .ok (.ireturn, 1) := by decide +kernel
theorem dX5_list_10 : decode cX5_list 10 = .ok (.aload_n 0, 1) := by decide +kernel
theorem dX5_list_11 : decode cX5_list 11 = .ok (.getfield 37, 3) := by decide +kernel
theorem dX5_list_14 : decode cX5_list 14 = .ok (.getfield 70, 3) := by decide +kernel
theorem dX5_list_17 : decode cX5_list 17 = .ok (.bipush 16, 2) := by decide +kernel
theorem dX5_list_19 : decode cX5_list 19 = .ok (.if_icmp .lt 6, 3) := by decide +kernel
theorem dX5_list_22 : decode cX5_list 22 = .ok (.bipush (-4), 2) := by decide +kernel
theorem dX5_list_24 : decode cX5_list 24 = .ok (.ireturn, 1) := by decide +kernel
theorem dX5_list_25 : decode cX5_list 25 = .ok (.aload_n 0, 1) := by decide +kernel
theorem dX5_list_26 : decode cX5_list 26 = .ok (.getfield 37, 3) := by decide +kernel
theorem dX5_list_29 : decode cX5_list 29 = .ok (.iload_n 1, 1) := by decide +kernel
theorem dX5_list_30 : decode cX5_list 30 = .ok (.invokevirtual 71, 3) := by decide +kernel
theorem dX5_list_33 : decode cX5_list 33 = .ok (.aload_n 0, 1) := by decide +kernel
theorem dX5_list_34 : decode cX5_list 34 = .ok (.getfield 37, 3) := by decide +kernel
theorem dX5_list_37 : decode cX5_list 37 = .ok (.getfield 70, 3) := by decide +kernel
theorem dX5_list_40 : decode cX5_list 40 = .ok (.ireturn, 1) := by decide +kernel
theorem dX5_listed_0 : decode cX5_listed 0 = .ok (.iload_n 1, 1) := by decide +kernel
theorem dX5_listed_1 : decode cX5_listed 1 = .ok (.ifCond .lt 14, 3) := by decide +kernel
theorem dX5_listed_4 : decode cX5_listed 4 = .ok (.iload_n 1, 1) := by decide +kernel
theorem dX5_listed_5 : decode cX5_listed 5 = .ok (.aload_n 0, 1) := by decide +kernel
theorem dX5_listed_6 : decode cX5_listed 6 = .ok (.getfield 37, 3) := by decide +kernel
theorem dX5_listed_9 : decode cX5_listed 9 = .ok (.getfield 70, 3) := by decide +kernel
theorem dX5_listed_12 : decode cX5_listed 12 = .ok (.if_icmp .lt 6, 3) := by decide +kernel
theorem dX5_listed_15 : decode cX5_listed 15 = .ok (.bipush (-2), 2) := by decide +kernel
theorem dX5_listed_17 : decode cX5_listed 17 = .ok (.ireturn, 1) := by decide +kernel
theorem dX5_listed_18 : decode cX5_listed 18 = .ok (.aload_n 0, 1) := by decide +kernel
theorem dX5_listed_19 : decode cX5_listed 19 = .ok (.getfield 37, 3) := by decide +kernel
theorem dX5_listed_22 : decode cX5_listed 22 = .ok (.iload_n 1, 1) := by decide +kernel
theorem dX5_listed_23 : decode cX5_listed 23 = .ok (.invokevirtual 74, 3) := by decide +kernel
theorem dX5_listed_26 : decode cX5_listed 26 = .ok (.ireturn, 1) := by decide +kernel
theorem dX5_join_0 : decode cX5_join 0 = .ok (.aload_n 0, 1) := by decide +kernel
theorem dX5_join_1 : decode cX5_join 1 = .ok (.iload_n 1, 1) := by decide +kernel
theorem dX5_join_2 : decode cX5_join 2 = .ok (.invokevirtual 77, 3) := by decide +kernel
theorem dX5_join_5 : decode cX5_join 5 = .ok (.astore_n 2, 1) := by decide +kernel
theorem dX5_join_6 : decode cX5_join 6 = .ok (.aload_n 2, 1) := by decide +kernel
theorem dX5_join_7 : decode cX5_join 7 = .ok (.ifnonnull 5, 3) := by decide +kernel
theorem dX5_join_10 : decode cX5_join 10 = .ok (.iconst (-1), 1) := by decide +kernel
theorem dX5_join_11 : decode cX5_join 11 = .ok (.ireturn, 1) := by decide +kernel
theorem dX5_join_12 : decode cX5_join 12 = .ok (.aload_n 0, 1) := by decide +kernel
theorem dX5_join_13 : decode cX5_join 13 = .ok (.getfield 18, 3) := by decide +kernel
theorem dX5_join_16 : decode cX5_join 16 = .ok (.aload_n 2, 1) := by decide +kernel
theorem dX5_join_17 : decode cX5_join 17 = .ok (.invokevirtual 81, 3) := by decide +kernel
theorem dX5_join_20 : decode cX5_join 20 = .ok (.istore_n 3, 1) := by decide +kernel
theorem dX5_join_21 : decode cX5_join 21 = .ok (.iload_n 3, 1) := by decide +kernel
theorem dX5_join_22 : decode cX5_join 22 = .ok (.ifCond .eq 22, 3) := by decide +kernel
theorem dX5_join_25 : decode cX5_join 25 = .ok (.aload_n 0, 1) := by decide +kernel
theorem dX5_join_26 : decode cX5_join 26 = .ok (.getfield 30, 3) := by decide +kernel
theorem dX5_join_29 : decode cX5_join 29 = .ok (.aload_n 2, 1) := by decide +kernel
theorem dX5_join_30 : decode cX5_join 30 = .ok (.invokevirtual 85, 3) := by decide +kernel
theorem dX5_join_33 : decode cX5_join 33 = .ok (.aload_n 0, 1) := by decide +kernel
theorem dX5_join_34 : decode cX5_join 34 = .ok (.getfield 18, 3) := by decide +kernel
theorem dX5_join_37 : decode cX5_join 37 = .ok (.aload_n 0, 1) := by decide +kernel
theorem dX5_join_38 : decode cX5_join 38 = .ok (.getfield 30, 3) := by decide +kernel
theorem dX5_join_41 : decode cX5_join 41 = .ok (.invokevirtual 89, 3) := by decide +kernel
theorem dX5_join_44 : decode cX5_join 44 = .ok (.aload_n 0, 1) := by decide +kernel
theorem dX5_join_45 : decode cX5_join 45 = .ok (.getfield 18, 3) := by decide +kernel
theorem dX5_join_48 : decode cX5_join 48 = .ok (.invokevirtual 92, 3) := by decide +kernel
theorem dX5_join_51 : decode cX5_join 51 = .ok (.iload_n 3, 1) := by decide +kernel
theorem dX5_join_52 : decode cX5_join 52 = .ok (.ifCond .eq 11, 3) := by decide +kernel
theorem dX5_join_55 : decode cX5_join 55 = .ok (.aload_n 0, 1) := by decide +kernel
theorem dX5_join_56 : decode cX5_join 56 = .ok (.iload_n 1, 1) := by decide +kernel
theorem dX5_join_57 : decode cX5_join 57 = .ok (.invokevirtual 55, 3) := by decide +kernel
theorem dX5_join_60 : decode cX5_join 60 = .ok (.goto 5, 3) := by decide +kernel
theorem dX5_join_63 : decode cX5_join 63 = .ok (.bipush (-3), 2) := by decide +kernel
theorem dX5_join_65 : decode cX5_join 65 = .ok (.ireturn, 1) := by decide +kernel
theorem dX5_count_0 : decode cX5_count 0 = .ok (.aload_n 0, 1) := by decide +kernel
theorem dX5_count_1 : decode cX5_count 1 = .ok (.iload_n 1, 1) := by decide +kernel
theorem dX5_count_2 : decode cX5_count 2 = .ok (.invokevirtual 77, 3) := by decide +kernel
theorem dX5_count_5 : decode cX5_count 5 = .ok (.astore_n 3, 1) := by decide +kernel
theorem dX5_count_6 : decode cX5_count 6 = .ok (.aload_n 3, 1) := by decide +kernel
theorem dX5_count_7 : decode cX5_count 7 = .ok (.ifnonnull 5, 3) := by decide +kernel
theorem dX5_count_10 : decode cX5_count 10 = .ok (.iconst (-1), 1) := by decide +kernel
theorem dX5_count_11 : decode cX5_count 11 = .ok (.ireturn, 1) := by decide +kernel
theorem dX5_count_12 : decode cX5_count 12 = .ok (.iload_n 2, 1) := by decide +kernel
theorem dX5_count_13 : decode cX5_count 13 = .ok (.tableswitch 75 0 5 #[39, 44, 49, 54, 59, 67], 39) := by decide +kernel
theorem dX5_count_52 : decode cX5_count 52 = .ok (.aload_n 3, 1) := by decide +kernel
theorem dX5_count_53 : decode cX5_count 53 = .ok (.getfield 95, 3) := by decide +kernel
theorem dX5_count_56 : decode cX5_count 56 = .ok (.ireturn, 1) := by decide +kernel
theorem dX5_count_57 : decode cX5_count 57 = .ok (.aload_n 3, 1) := by decide +kernel
theorem dX5_count_58 : decode cX5_count 58 = .ok (.getfield 98, 3) := by decide +kernel
theorem dX5_count_61 : decode cX5_count 61 = .ok (.ireturn, 1) := by decide +kernel
theorem dX5_count_62 : decode cX5_count 62 = .ok (.aload_n 3, 1) := by decide +kernel
theorem dX5_count_63 : decode cX5_count 63 = .ok (.invokevirtual 101, 3) := by decide +kernel
theorem dX5_count_66 : decode cX5_count 66 = .ok (.ireturn, 1) := by decide +kernel
theorem dX5_count_67 : decode cX5_count 67 = .ok (.aload_n 3, 1) := by decide +kernel
theorem dX5_count_68 : decode cX5_count 68 = .ok (.invokevirtual 105, 3) := by decide +kernel
theorem dX5_count_71 : decode cX5_count 71 = .ok (.ireturn, 1) := by decide +kernel
theorem dX5_count_72 : decode cX5_count 72 = .ok (.aload_n 0, 1) := by decide +kernel
theorem dX5_count_73 : decode cX5_count 73 = .ok (.getfield 18, 3) := by decide +kernel
theorem dX5_count_76 : decode cX5_count 76 = .ok (.getfield 62, 3) := by decide +kernel
theorem dX5_count_79 : decode cX5_count 79 = .ok (.ireturn, 1) := by decide +kernel
theorem dX5_count_80 : decode cX5_count 80 = .ok (.aload_n 0, 1) := by decide +kernel
theorem dX5_count_81 : decode cX5_count 81 = .ok (.getfield 37, 3) := by decide +kernel
theorem dX5_count_84 : decode cX5_count 84 = .ok (.getfield 70, 3) := by decide +kernel
theorem dX5_count_87 : decode cX5_count 87 = .ok (.ireturn, 1) := by decide +kernel
theorem dX5_count_88 : decode cX5_count 88 = .ok (.bipush (-2), 2) := by decide +kernel
theorem dX5_count_90 : decode cX5_count 90 = .ok (.ireturn, 1) := by decide +kernel
theorem dX5_at_0 : decode cX5_at 0 = .ok (.aload_n 0, 1) := by decide +kernel
theorem dX5_at_1 : decode cX5_at 1 = .ok (.iload_n 1, 1) := by decide +kernel
theorem dX5_at_2 : decode cX5_at 2 = .ok (.invokevirtual 77, 3) := by decide +kernel
theorem dX5_at_5 : decode cX5_at 5 = .ok (.astore 4, 2) := by decide +kernel
theorem dX5_at_7 : decode cX5_at 7 = .ok (.aload 4, 2) := by decide +kernel
theorem dX5_at_9 : decode cX5_at 9 = .ok (.ifnull 13, 3) := by decide +kernel
theorem dX5_at_12 : decode cX5_at 12 = .ok (.aload 4, 2) := by decide +kernel
theorem dX5_at_14 : decode cX5_at 14 = .ok (.iload_n 2, 1) := by decide +kernel
theorem dX5_at_15 : decode cX5_at 15 = .ok (.iload_n 3, 1) := by decide +kernel
theorem dX5_at_16 : decode cX5_at 16 = .ok (.invokevirtual 108, 3) := by decide +kernel
theorem dX5_at_19 : decode cX5_at 19 = .ok (.ifCond .ne 5, 3) := by decide +kernel
theorem dX5_at_22 : decode cX5_at 22 = .ok (.lconst 0, 1) := by decide +kernel
theorem dX5_at_23 : decode cX5_at 23 = .ok (.lreturn, 1) := by decide +kernel
theorem dX5_at_24 : decode cX5_at 24 = .ok (.aload 4, 2) := by decide +kernel
theorem dX5_at_26 : decode cX5_at 26 = .ok (.iload_n 2, 1) := by decide +kernel
theorem dX5_at_27 : decode cX5_at 27 = .ok (.iload_n 3, 1) := by decide +kernel
theorem dX5_at_28 : decode cX5_at 28 = .ok (.invokevirtual 112, 3) := by decide +kernel
theorem dX5_at_31 : decode cX5_at 31 = .ok (.lreturn, 1) := by decide +kernel
theorem dX5_kept_0 : decode cX5_kept 0 = .ok (.aload_n 0, 1) := by decide +kernel
theorem dX5_kept_1 : decode cX5_kept 1 = .ok (.iload_n 1, 1) := by decide +kernel
theorem dX5_kept_2 : decode cX5_kept 2 = .ok (.invokevirtual 77, 3) := by decide +kernel
theorem dX5_kept_5 : decode cX5_kept 5 = .ok (.astore 4, 2) := by decide +kernel
theorem dX5_kept_7 : decode cX5_kept 7 = .ok (.aload 4, 2) := by decide +kernel
theorem dX5_kept_9 : decode cX5_kept 9 = .ok (.ifnonnull 5, 3) := by decide +kernel
theorem dX5_kept_12 : decode cX5_kept 12 = .ok (.iconst (-1), 1) := by decide +kernel
theorem dX5_kept_13 : decode cX5_kept 13 = .ok (.ireturn, 1) := by decide +kernel
theorem dX5_kept_14 : decode cX5_kept 14 = .ok (.aload 4, 2) := by decide +kernel
theorem dX5_kept_16 : decode cX5_kept 16 = .ok (.iload_n 2, 1) := by decide +kernel
theorem dX5_kept_17 : decode cX5_kept 17 = .ok (.iload_n 3, 1) := by decide +kernel
theorem dX5_kept_18 : decode cX5_kept 18 = .ok (.invokevirtual 108, 3) := by decide +kernel
theorem dX5_kept_21 : decode cX5_kept 21 = .ok (.ifCond .ne 6, 3) := by decide +kernel
theorem dX5_kept_24 : decode cX5_kept 24 = .ok (.bipush (-2), 2) := by decide +kernel
theorem dX5_kept_26 : decode cX5_kept 26 = .ok (.ireturn, 1) := by decide +kernel
theorem dX5_kept_27 : decode cX5_kept 27 = .ok (.aload 4, 2) := by decide +kernel
theorem dX5_kept_29 : decode cX5_kept 29 = .ok (.iload_n 2, 1) := by decide +kernel
theorem dX5_kept_30 : decode cX5_kept 30 = .ok (.iload_n 3, 1) := by decide +kernel
theorem dX5_kept_31 : decode cX5_kept 31 = .ok (.invokevirtual 116, 3) := by decide +kernel
theorem dX5_kept_34 : decode cX5_kept 34 = .ok (.ifCond .eq 13, 3) := by decide +kernel
theorem dX5_kept_37 : decode cX5_kept 37 = .ok (.aload 4, 2) := by decide +kernel
theorem dX5_kept_39 : decode cX5_kept 39 = .ok (.iload_n 2, 1) := by decide +kernel
theorem dX5_kept_40 : decode cX5_kept 40 = .ok (.iload_n 3, 1) := by decide +kernel
theorem dX5_kept_41 : decode cX5_kept 41 = .ok (.invokevirtual 119, 3) := by decide +kernel
theorem dX5_kept_44 : decode cX5_kept 44 = .ok (.goto 5, 3) := by decide +kernel
theorem dX5_kept_47 : decode cX5_kept 47 = .ok (.bipush (-3), 2) := by decide +kernel
theorem dX5_kept_49 : decode cX5_kept 49 = .ok (.ireturn, 1) := by decide +kernel
theorem dX5_place_0 : decode cX5_place 0 = .ok (.aload_n 0, 1) := by decide +kernel
theorem dX5_place_1 : decode cX5_place 1 = .ok (.iload_n 1, 1) := by decide +kernel
theorem dX5_place_2 : decode cX5_place 2 = .ok (.invokevirtual 77, 3) := by decide +kernel
theorem dX5_place_5 : decode cX5_place 5 = .ok (.astore_n 3, 1) := by decide +kernel
theorem dX5_place_6 : decode cX5_place 6 = .ok (.aload_n 3, 1) := by decide +kernel
theorem dX5_place_7 : decode cX5_place 7 = .ok (.ifnonnull 5, 3) := by decide +kernel
theorem dX5_place_10 : decode cX5_place 10 = .ok (.iconst (-1), 1) := by decide +kernel
theorem dX5_place_11 : decode cX5_place 11 = .ok (.ireturn, 1) := by decide +kernel
theorem dX5_place_12 : decode cX5_place 12 = .ok (.iload_n 2, 1) := by decide +kernel
theorem dX5_place_13 : decode cX5_place 13 = .ok (.ifCond .lt 11, 3) := by decide +kernel
theorem dX5_place_16 : decode cX5_place 16 = .ok (.iload_n 2, 1) := by decide +kernel
theorem dX5_place_17 : decode cX5_place 17 = .ok (.aload_n 3, 1) := by decide +kernel
theorem dX5_place_18 : decode cX5_place 18 = .ok (.invokevirtual 101, 3) := by decide +kernel
theorem dX5_place_21 : decode cX5_place 21 = .ok (.if_icmp .lt 6, 3) := by decide +kernel
theorem dX5_place_24 : decode cX5_place 24 = .ok (.bipush (-2), 2) := by decide +kernel
theorem dX5_place_26 : decode cX5_place 26 = .ok (.ireturn, 1) := by decide +kernel
theorem dX5_place_27 : decode cX5_place 27 = .ok (.aload_n 3, 1) := by decide +kernel
theorem dX5_place_28 : decode cX5_place 28 = .ok (.iload_n 2, 1) := by decide +kernel
theorem dX5_place_29 : decode cX5_place 29 = .ok (.invokevirtual 123, 3) := by decide +kernel
theorem dX5_place_32 : decode cX5_place 32 = .ok (.ireturn, 1) := by decide +kernel
theorem dX5_set_0 : decode cX5_set 0 = .ok (.aload_n 0, 1) := by decide +kernel
theorem dX5_set_1 : decode cX5_set 1 = .ok (.iload_n 1, 1) := by decide +kernel
theorem dX5_set_2 : decode cX5_set 2 = .ok (.invokevirtual 77, 3) := by decide +kernel
theorem dX5_set_5 : decode cX5_set 5 = .ok (.astore 6, 2) := by decide +kernel
theorem dX5_set_7 : decode cX5_set 7 = .ok (.aload 6, 2) := by decide +kernel
theorem dX5_set_9 : decode cX5_set 9 = .ok (.ifnonnull 5, 3) := by decide +kernel
theorem dX5_set_12 : decode cX5_set 12 = .ok (.iconst (-1), 1) := by decide +kernel
theorem dX5_set_13 : decode cX5_set 13 = .ok (.ireturn, 1) := by decide +kernel
theorem dX5_set_14 : decode cX5_set 14 = .ok (.aload 6, 2) := by decide +kernel
theorem dX5_set_16 : decode cX5_set 16 = .ok (.iload_n 2, 1) := by decide +kernel
theorem dX5_set_17 : decode cX5_set 17 = .ok (.iload_n 3, 1) := by decide +kernel
theorem dX5_set_18 : decode cX5_set 18 = .ok (.invokevirtual 108, 3) := by decide +kernel
theorem dX5_set_21 : decode cX5_set 21 = .ok (.ifCond .ne 6, 3) := by decide +kernel
theorem dX5_set_24 : decode cX5_set 24 = .ok (.bipush (-2), 2) := by decide +kernel
theorem dX5_set_26 : decode cX5_set 26 = .ok (.ireturn, 1) := by decide +kernel
theorem dX5_set_27 : decode cX5_set 27 = .ok (.aload 6, 2) := by decide +kernel
theorem dX5_set_29 : decode cX5_set 29 = .ok (.iload_n 2, 1) := by decide +kernel
theorem dX5_set_30 : decode cX5_set 30 = .ok (.iload_n 3, 1) := by decide +kernel
theorem dX5_set_31 : decode cX5_set 31 = .ok (.invokevirtual 116, 3) := by decide +kernel
theorem dX5_set_34 : decode cX5_set 34 = .ok (.ifCond .ne 6, 3) := by decide +kernel
theorem dX5_set_37 : decode cX5_set 37 = .ok (.bipush (-3), 2) := by decide +kernel
theorem dX5_set_39 : decode cX5_set 39 = .ok (.ireturn, 1) := by decide +kernel
theorem dX5_set_40 : decode cX5_set 40 = .ok (.aload 6, 2) := by decide +kernel
theorem dX5_set_42 : decode cX5_set 42 = .ok (.iload_n 2, 1) := by decide +kernel
theorem dX5_set_43 : decode cX5_set 43 = .ok (.iload_n 3, 1) := by decide +kernel
theorem dX5_set_44 : decode cX5_set 44 = .ok (.lload 4, 2) := by decide +kernel
theorem dX5_set_46 : decode cX5_set 46 = .ok (.invokevirtual 126, 3) := by decide +kernel
theorem dX5_set_49 : decode cX5_set 49 = .ok (.iconst 1, 1) := by decide +kernel
theorem dX5_set_50 : decode cX5_set 50 = .ok (.ireturn, 1) := by decide +kernel
theorem dX5_prune_0 : decode cX5_prune 0 = .ok (.aload_n 0, 1) := by decide +kernel
theorem dX5_prune_1 : decode cX5_prune 1 = .ok (.iload_n 1, 1) := by decide +kernel
theorem dX5_prune_2 : decode cX5_prune 2 = .ok (.invokevirtual 77, 3) := by decide +kernel
theorem dX5_prune_5 : decode cX5_prune 5 = .ok (.astore_n 2, 1) := by decide +kernel
theorem dX5_prune_6 : decode cX5_prune 6 = .ok (.aload_n 2, 1) := by decide +kernel
theorem dX5_prune_7 : decode cX5_prune 7 = .ok (.ifnonnull 7, 3) := by decide +kernel
theorem dX5_prune_10 : decode cX5_prune 10 = .ok (.iconst (-1), 1) := by decide +kernel
theorem dX5_prune_11 : decode cX5_prune 11 = .ok (.goto 7, 3) := by decide +kernel
theorem dX5_prune_14 : decode cX5_prune 14 = .ok (.aload_n 2, 1) := by decide +kernel
theorem dX5_prune_15 : decode cX5_prune 15 = .ok (.invokevirtual 129, 3) := by decide +kernel
theorem dX5_prune_18 : decode cX5_prune 18 = .ok (.ireturn, 1) := by decide +kernel
theorem dX5_add_0 : decode cX5_add 0 = .ok (.aload_n 0, 1) := by decide +kernel
theorem dX5_add_1 : decode cX5_add 1 = .ok (.iload_n 1, 1) := by decide +kernel
theorem dX5_add_2 : decode cX5_add 2 = .ok (.invokevirtual 77, 3) := by decide +kernel
theorem dX5_add_5 : decode cX5_add 5 = .ok (.astore 8, 2) := by decide +kernel
theorem dX5_add_7 : decode cX5_add 7 = .ok (.aload_n 0, 1) := by decide +kernel
theorem dX5_add_8 : decode cX5_add 8 = .ok (.iload_n 2, 1) := by decide +kernel
theorem dX5_add_9 : decode cX5_add 9 = .ok (.invokevirtual 77, 3) := by decide +kernel
theorem dX5_add_12 : decode cX5_add 12 = .ok (.astore 9, 2) := by decide +kernel
theorem dX5_add_14 : decode cX5_add 14 = .ok (.aload 8, 2) := by decide +kernel
theorem dX5_add_16 : decode cX5_add 16 = .ok (.ifnull 15, 3) := by decide +kernel
theorem dX5_add_19 : decode cX5_add 19 = .ok (.aload 9, 2) := by decide +kernel
theorem dX5_add_21 : decode cX5_add 21 = .ok (.ifnull 10, 3) := by decide +kernel
theorem dX5_add_24 : decode cX5_add 24 = .ok (.iload_n 3, 1) := by decide +kernel
theorem dX5_add_25 : decode cX5_add 25 = .ok (.invokestatic 44, 3) := by decide +kernel
theorem dX5_add_28 : decode cX5_add 28 = .ok (.ifCond .ne 5, 3) := by decide +kernel
theorem dX5_add_31 : decode cX5_add 31 = .ok (.iconst (-1), 1) := by decide +kernel
theorem dX5_add_32 : decode cX5_add 32 = .ok (.ireturn, 1) := by decide +kernel
theorem dX5_add_33 : decode cX5_add 33 = .ok (.aload 8, 2) := by decide +kernel
theorem dX5_add_35 : decode cX5_add 35 = .ok (.aload 9, 2) := by decide +kernel
theorem dX5_add_37 : decode cX5_add 37 = .ok (.invokevirtual 132, 3) := by decide +kernel
theorem dX5_add_40 : decode cX5_add 40 = .ok (.ifCond .ne 6, 3) := by decide +kernel
theorem dX5_add_43 : decode cX5_add 43 = .ok (.bipush (-3), 2) := by decide +kernel
theorem dX5_add_45 : decode cX5_add 45 = .ok (.ireturn, 1) := by decide +kernel
theorem dX5_add_46 : decode cX5_add 46 = .ok (.aload_n 0, 1) := by decide +kernel
theorem dX5_add_47 : decode cX5_add 47 = .ok (.getfield 30, 3) := by decide +kernel
theorem dX5_add_50 : decode cX5_add 50 = .ok (.aload 8, 2) := by decide +kernel
theorem dX5_add_52 : decode cX5_add 52 = .ok (.getfield 95, 3) := by decide +kernel
theorem dX5_add_55 : decode cX5_add 55 = .ok (.aload 8, 2) := by decide +kernel
theorem dX5_add_57 : decode cX5_add 57 = .ok (.getfield 98, 3) := by decide +kernel
theorem dX5_add_60 : decode cX5_add 60 = .ok (.invokevirtual 51, 3) := by decide +kernel
theorem dX5_add_63 : decode cX5_add 63 = .ok (.aload_n 0, 1) := by decide +kernel
theorem dX5_add_64 : decode cX5_add 64 = .ok (.getfield 30, 3) := by decide +kernel
theorem dX5_add_67 : decode cX5_add 67 = .ok (.aload 8, 2) := by decide +kernel
theorem dX5_add_69 : decode cX5_add 69 = .ok (.lload 4, 2) := by decide +kernel
theorem dX5_add_71 : decode cX5_add 71 = .ok (.invokevirtual 135, 3) := by decide +kernel
theorem dX5_add_74 : decode cX5_add 74 = .ok (.aload_n 0, 1) := by decide +kernel
theorem dX5_add_75 : decode cX5_add 75 = .ok (.getfield 30, 3) := by decide +kernel
theorem dX5_add_78 : decode cX5_add 78 = .ok (.aload 9, 2) := by decide +kernel
theorem dX5_add_80 : decode cX5_add 80 = .ok (.lload 6, 2) := by decide +kernel
theorem dX5_add_82 : decode cX5_add 82 = .ok (.invokevirtual 135, 3) := by decide +kernel
theorem dX5_add_85 : decode cX5_add 85 = .ok (.aload_n 0, 1) := by decide +kernel
theorem dX5_add_86 : decode cX5_add 86 = .ok (.iload_n 3, 1) := by decide +kernel
theorem dX5_add_87 : decode cX5_add 87 = .ok (.invokevirtual 55, 3) := by decide +kernel
theorem dX5_add_90 : decode cX5_add 90 = .ok (.ireturn, 1) := by decide +kernel
theorem dX5_times_0 : decode cX5_times 0 = .ok (.aload_n 0, 1) := by decide +kernel
theorem dX5_times_1 : decode cX5_times 1 = .ok (.iload_n 1, 1) := by decide +kernel
theorem dX5_times_2 : decode cX5_times 2 = .ok (.invokevirtual 77, 3) := by decide +kernel
theorem dX5_times_5 : decode cX5_times 5 = .ok (.astore 4, 2) := by decide +kernel
theorem dX5_times_7 : decode cX5_times 7 = .ok (.aload_n 0, 1) := by decide +kernel
theorem dX5_times_8 : decode cX5_times 8 = .ok (.iload_n 2, 1) := by decide +kernel
theorem dX5_times_9 : decode cX5_times 9 = .ok (.invokevirtual 77, 3) := by decide +kernel
theorem dX5_times_12 : decode cX5_times 12 = .ok (.astore 5, 2) := by decide +kernel
theorem dX5_times_14 : decode cX5_times 14 = .ok (.aload 4, 2) := by decide +kernel
theorem dX5_times_16 : decode cX5_times 16 = .ok (.ifnull 15, 3) := by decide +kernel
theorem dX5_times_19 : decode cX5_times 19 = .ok (.aload 5, 2) := by decide +kernel
theorem dX5_times_21 : decode cX5_times 21 = .ok (.ifnull 10, 3) := by decide +kernel
theorem dX5_times_24 : decode cX5_times 24 = .ok (.iload_n 3, 1) := by decide +kernel
theorem dX5_times_25 : decode cX5_times 25 = .ok (.invokestatic 44, 3) := by decide +kernel
theorem dX5_times_28 : decode cX5_times 28 = .ok (.ifCond .ne 5, 3) := by decide +kernel
theorem dX5_times_31 : decode cX5_times 31 = .ok (.iconst (-1), 1) := by decide +kernel
theorem dX5_times_32 : decode cX5_times 32 = .ok (.ireturn, 1) := by decide +kernel
theorem dX5_times_33 : decode cX5_times 33 = .ok (.aload 4, 2) := by decide +kernel
theorem dX5_times_35 : decode cX5_times 35 = .ok (.getfield 98, 3) := by decide +kernel
theorem dX5_times_38 : decode cX5_times 38 = .ok (.aload 5, 2) := by decide +kernel
theorem dX5_times_40 : decode cX5_times 40 = .ok (.getfield 95, 3) := by decide +kernel
theorem dX5_times_43 : decode cX5_times 43 = .ok (.if_icmp .eq 6, 3) := by decide +kernel
theorem dX5_times_46 : decode cX5_times 46 = .ok (.bipush (-3), 2) := by decide +kernel
theorem dX5_times_48 : decode cX5_times 48 = .ok (.ireturn, 1) := by decide +kernel
theorem dX5_times_49 : decode cX5_times 49 = .ok (.aload_n 0, 1) := by decide +kernel
theorem dX5_times_50 : decode cX5_times 50 = .ok (.getfield 30, 3) := by decide +kernel
theorem dX5_times_53 : decode cX5_times 53 = .ok (.aload 4, 2) := by decide +kernel
theorem dX5_times_55 : decode cX5_times 55 = .ok (.aload 5, 2) := by decide +kernel
theorem dX5_times_57 : decode cX5_times 57 = .ok (.invokevirtual 139, 3) := by decide +kernel
theorem dX5_times_60 : decode cX5_times 60 = .ok (.aload_n 0, 1) := by decide +kernel
theorem dX5_times_61 : decode cX5_times 61 = .ok (.iload_n 3, 1) := by decide +kernel
theorem dX5_times_62 : decode cX5_times 62 = .ok (.invokevirtual 55, 3) := by decide +kernel
theorem dX5_times_65 : decode cX5_times 65 = .ok (.ireturn, 1) := by decide +kernel
theorem dX5_each_0 : decode cX5_each 0 = .ok (.aload_n 0, 1) := by decide +kernel
theorem dX5_each_1 : decode cX5_each 1 = .ok (.iload_n 1, 1) := by decide +kernel
theorem dX5_each_2 : decode cX5_each 2 = .ok (.invokevirtual 77, 3) := by decide +kernel
theorem dX5_each_5 : decode cX5_each 5 = .ok (.astore 4, 2) := by decide +kernel
theorem dX5_each_7 : decode cX5_each 7 = .ok (.aload_n 0, 1) := by decide +kernel
theorem dX5_each_8 : decode cX5_each 8 = .ok (.iload_n 2, 1) := by decide +kernel
theorem dX5_each_9 : decode cX5_each 9 = .ok (.invokevirtual 77, 3) := by decide +kernel
theorem dX5_each_12 : decode cX5_each 12 = .ok (.astore 5, 2) := by decide +kernel
theorem dX5_each_14 : decode cX5_each 14 = .ok (.aload 4, 2) := by decide +kernel
theorem dX5_each_16 : decode cX5_each 16 = .ok (.ifnull 15, 3) := by decide +kernel
theorem dX5_each_19 : decode cX5_each 19 = .ok (.aload 5, 2) := by decide +kernel
theorem dX5_each_21 : decode cX5_each 21 = .ok (.ifnull 10, 3) := by decide +kernel
theorem dX5_each_24 : decode cX5_each 24 = .ok (.iload_n 3, 1) := by decide +kernel
theorem dX5_each_25 : decode cX5_each 25 = .ok (.invokestatic 44, 3) := by decide +kernel
theorem dX5_each_28 : decode cX5_each 28 = .ok (.ifCond .ne 5, 3) := by decide +kernel
theorem dX5_each_31 : decode cX5_each 31 = .ok (.iconst (-1), 1) := by decide +kernel
theorem dX5_each_32 : decode cX5_each 32 = .ok (.ireturn, 1) := by decide +kernel
theorem dX5_each_33 : decode cX5_each 33 = .ok (.aload 4, 2) := by decide +kernel
theorem dX5_each_35 : decode cX5_each 35 = .ok (.aload 5, 2) := by decide +kernel
theorem dX5_each_37 : decode cX5_each 37 = .ok (.invokevirtual 132, 3) := by decide +kernel
theorem dX5_each_40 : decode cX5_each 40 = .ok (.ifCond .ne 6, 3) := by decide +kernel
theorem dX5_each_43 : decode cX5_each 43 = .ok (.bipush (-3), 2) := by decide +kernel
theorem dX5_each_45 : decode cX5_each 45 = .ok (.ireturn, 1) := by decide +kernel
theorem dX5_each_46 : decode cX5_each 46 = .ok (.aload_n 0, 1) := by decide +kernel
theorem dX5_each_47 : decode cX5_each 47 = .ok (.getfield 30, 3) := by decide +kernel
theorem dX5_each_50 : decode cX5_each 50 = .ok (.aload 4, 2) := by decide +kernel
theorem dX5_each_52 : decode cX5_each 52 = .ok (.aload 5, 2) := by decide +kernel
theorem dX5_each_54 : decode cX5_each 54 = .ok (.invokevirtual 143, 3) := by decide +kernel
theorem dX5_each_57 : decode cX5_each 57 = .ok (.aload_n 0, 1) := by decide +kernel
theorem dX5_each_58 : decode cX5_each 58 = .ok (.iload_n 3, 1) := by decide +kernel
theorem dX5_each_59 : decode cX5_each 59 = .ok (.invokevirtual 55, 3) := by decide +kernel
theorem dX5_each_62 : decode cX5_each 62 = .ok (.ireturn, 1) := by decide +kernel
theorem dX5_mask_0 : decode cX5_mask 0 = .ok (.aload_n 0, 1) := by decide +kernel
theorem dX5_mask_1 : decode cX5_mask 1 = .ok (.iload_n 1, 1) := by decide +kernel
theorem dX5_mask_2 : decode cX5_mask 2 = .ok (.invokevirtual 77, 3) := by decide +kernel
theorem dX5_mask_5 : decode cX5_mask 5 = .ok (.astore 5, 2) := by decide +kernel
theorem dX5_mask_7 : decode cX5_mask 7 = .ok (.aload_n 0, 1) := by decide +kernel
theorem dX5_mask_8 : decode cX5_mask 8 = .ok (.iload_n 2, 1) := by decide +kernel
theorem dX5_mask_9 : decode cX5_mask 9 = .ok (.invokevirtual 77, 3) := by decide +kernel
theorem dX5_mask_12 : decode cX5_mask 12 = .ok (.astore 6, 2) := by decide +kernel
theorem dX5_mask_14 : decode cX5_mask 14 = .ok (.aload 5, 2) := by decide +kernel
theorem dX5_mask_16 : decode cX5_mask 16 = .ok (.ifnull 15, 3) := by decide +kernel
theorem dX5_mask_19 : decode cX5_mask 19 = .ok (.aload 6, 2) := by decide +kernel
theorem dX5_mask_21 : decode cX5_mask 21 = .ok (.ifnull 10, 3) := by decide +kernel
theorem dX5_mask_24 : decode cX5_mask 24 = .ok (.iload_n 3, 1) := by decide +kernel
theorem dX5_mask_25 : decode cX5_mask 25 = .ok (.invokestatic 44, 3) := by decide +kernel
theorem dX5_mask_28 : decode cX5_mask 28 = .ok (.ifCond .ne 5, 3) := by decide +kernel
theorem dX5_mask_31 : decode cX5_mask 31 = .ok (.iconst (-1), 1) := by decide +kernel
theorem dX5_mask_32 : decode cX5_mask 32 = .ok (.ireturn, 1) := by decide +kernel
theorem dX5_mask_33 : decode cX5_mask 33 = .ok (.aload 5, 2) := by decide +kernel
theorem dX5_mask_35 : decode cX5_mask 35 = .ok (.aload 6, 2) := by decide +kernel
theorem dX5_mask_37 : decode cX5_mask 37 = .ok (.invokevirtual 132, 3) := by decide +kernel
theorem dX5_mask_40 : decode cX5_mask 40 = .ok (.ifCond .ne 6, 3) := by decide +kernel
theorem dX5_mask_43 : decode cX5_mask 43 = .ok (.bipush (-3), 2) := by decide +kernel
theorem dX5_mask_45 : decode cX5_mask 45 = .ok (.ireturn, 1) := by decide +kernel
theorem dX5_mask_46 : decode cX5_mask 46 = .ok (.aload_n 0, 1) := by decide +kernel
theorem dX5_mask_47 : decode cX5_mask 47 = .ok (.getfield 30, 3) := by decide +kernel
theorem dX5_mask_50 : decode cX5_mask 50 = .ok (.aload 5, 2) := by decide +kernel
theorem dX5_mask_52 : decode cX5_mask 52 = .ok (.aload 6, 2) := by decide +kernel
theorem dX5_mask_54 : decode cX5_mask 54 = .ok (.iload 4, 2) := by decide +kernel
theorem dX5_mask_56 : decode cX5_mask 56 = .ok (.invokevirtual 146, 3) := by decide +kernel
theorem dX5_mask_59 : decode cX5_mask 59 = .ok (.aload_n 0, 1) := by decide +kernel
theorem dX5_mask_60 : decode cX5_mask 60 = .ok (.iload_n 3, 1) := by decide +kernel
theorem dX5_mask_61 : decode cX5_mask 61 = .ok (.invokevirtual 55, 3) := by decide +kernel
theorem dX5_mask_64 : decode cX5_mask 64 = .ok (.ireturn, 1) := by decide +kernel
theorem dX5_turn_0 : decode cX5_turn 0 = .ok (.aload_n 0, 1) := by decide +kernel
theorem dX5_turn_1 : decode cX5_turn 1 = .ok (.iload_n 1, 1) := by decide +kernel
theorem dX5_turn_2 : decode cX5_turn 2 = .ok (.invokevirtual 77, 3) := by decide +kernel
theorem dX5_turn_5 : decode cX5_turn 5 = .ok (.astore_n 3, 1) := by decide +kernel
theorem dX5_turn_6 : decode cX5_turn 6 = .ok (.aload_n 3, 1) := by decide +kernel
theorem dX5_turn_7 : decode cX5_turn 7 = .ok (.ifnull 10, 3) := by decide +kernel
theorem dX5_turn_10 : decode cX5_turn 10 = .ok (.iload_n 2, 1) := by decide +kernel
theorem dX5_turn_11 : decode cX5_turn 11 = .ok (.invokestatic 44, 3) := by decide +kernel
theorem dX5_turn_14 : decode cX5_turn 14 = .ok (.ifCond .ne 5, 3) := by decide +kernel
theorem dX5_turn_17 : decode cX5_turn 17 = .ok (.iconst (-1), 1) := by decide +kernel
theorem dX5_turn_18 : decode cX5_turn 18 = .ok (.ireturn, 1) := by decide +kernel
theorem dX5_turn_19 : decode cX5_turn 19 = .ok (.aload_n 0, 1) := by decide +kernel
theorem dX5_turn_20 : decode cX5_turn 20 = .ok (.getfield 30, 3) := by decide +kernel
theorem dX5_turn_23 : decode cX5_turn 23 = .ok (.aload_n 3, 1) := by decide +kernel
theorem dX5_turn_24 : decode cX5_turn 24 = .ok (.invokevirtual 150, 3) := by decide +kernel
theorem dX5_turn_27 : decode cX5_turn 27 = .ok (.aload_n 0, 1) := by decide +kernel
theorem dX5_turn_28 : decode cX5_turn 28 = .ok (.iload_n 2, 1) := by decide +kernel
theorem dX5_turn_29 : decode cX5_turn 29 = .ok (.invokevirtual 55, 3) := by decide +kernel
theorem dX5_turn_32 : decode cX5_turn 32 = .ok (.ireturn, 1) := by decide +kernel
theorem dX5_rows_0 : decode cX5_rows 0 = .ok (.aload_n 0, 1) := by decide +kernel
theorem dX5_rows_1 : decode cX5_rows 1 = .ok (.iload_n 1, 1) := by decide +kernel
theorem dX5_rows_2 : decode cX5_rows 2 = .ok (.invokevirtual 77, 3) := by decide +kernel
theorem dX5_rows_5 : decode cX5_rows 5 = .ok (.astore_n 3, 1) := by decide +kernel
theorem dX5_rows_6 : decode cX5_rows 6 = .ok (.aload_n 3, 1) := by decide +kernel
theorem dX5_rows_7 : decode cX5_rows 7 = .ok (.ifnull 10, 3) := by decide +kernel
theorem dX5_rows_10 : decode cX5_rows 10 = .ok (.iload_n 2, 1) := by decide +kernel
theorem dX5_rows_11 : decode cX5_rows 11 = .ok (.invokestatic 44, 3) := by decide +kernel
theorem dX5_rows_14 : decode cX5_rows 14 = .ok (.ifCond .ne 5, 3) := by decide +kernel
theorem dX5_rows_17 : decode cX5_rows 17 = .ok (.iconst (-1), 1) := by decide +kernel
theorem dX5_rows_18 : decode cX5_rows 18 = .ok (.ireturn, 1) := by decide +kernel
theorem dX5_rows_19 : decode cX5_rows 19 = .ok (.aload_n 0, 1) := by decide +kernel
theorem dX5_rows_20 : decode cX5_rows 20 = .ok (.getfield 37, 3) := by decide +kernel
theorem dX5_rows_23 : decode cX5_rows 23 = .ok (.getfield 70, 3) := by decide +kernel
theorem dX5_rows_26 : decode cX5_rows 26 = .ok (.ifCond .le 21, 3) := by decide +kernel
theorem dX5_rows_29 : decode cX5_rows 29 = .ok (.aload_n 0, 1) := by decide +kernel
theorem dX5_rows_30 : decode cX5_rows 30 = .ok (.getfield 37, 3) := by decide +kernel
theorem dX5_rows_33 : decode cX5_rows 33 = .ok (.aload_n 3, 1) := by decide +kernel
theorem dX5_rows_34 : decode cX5_rows 34 = .ok (.getfield 95, 3) := by decide +kernel
theorem dX5_rows_37 : decode cX5_rows 37 = .ok (.invokevirtual 153, 3) := by decide +kernel
theorem dX5_rows_40 : decode cX5_rows 40 = .ok (.ifCond .eq 7, 3) := by decide +kernel
theorem dX5_rows_43 : decode cX5_rows 43 = .ok (.iconst 1, 1) := by decide +kernel
theorem dX5_rows_44 : decode cX5_rows 44 = .ok (.goto 4, 3) := by decide +kernel
theorem dX5_rows_47 : decode cX5_rows 47 = .ok (.iconst 0, 1) := by decide +kernel
theorem dX5_rows_48 : decode cX5_rows 48 = .ok (.istore 4, 2) := by decide +kernel
theorem dX5_rows_50 : decode cX5_rows 50 = .ok (.iload 4, 2) := by decide +kernel
theorem dX5_rows_52 : decode cX5_rows 52 = .ok (.ifCond .eq 15, 3) := by decide +kernel
theorem dX5_rows_55 : decode cX5_rows 55 = .ok (.aload_n 0, 1) := by decide +kernel
theorem dX5_rows_56 : decode cX5_rows 56 = .ok (.getfield 30, 3) := by decide +kernel
theorem dX5_rows_59 : decode cX5_rows 59 = .ok (.aload_n 3, 1) := by decide +kernel
theorem dX5_rows_60 : decode cX5_rows 60 = .ok (.aload_n 0, 1) := by decide +kernel
theorem dX5_rows_61 : decode cX5_rows 61 = .ok (.getfield 37, 3) := by decide +kernel
theorem dX5_rows_64 : decode cX5_rows 64 = .ok (.invokevirtual 156, 3) := by decide +kernel
theorem dX5_rows_67 : decode cX5_rows 67 = .ok (.aload_n 0, 1) := by decide +kernel
theorem dX5_rows_68 : decode cX5_rows 68 = .ok (.getfield 37, 3) := by decide +kernel
theorem dX5_rows_71 : decode cX5_rows 71 = .ok (.invokevirtual 160, 3) := by decide +kernel
theorem dX5_rows_74 : decode cX5_rows 74 = .ok (.iload 4, 2) := by decide +kernel
theorem dX5_rows_76 : decode cX5_rows 76 = .ok (.ifCond .eq 11, 3) := by decide +kernel
theorem dX5_rows_79 : decode cX5_rows 79 = .ok (.aload_n 0, 1) := by decide +kernel
theorem dX5_rows_80 : decode cX5_rows 80 = .ok (.iload_n 2, 1) := by decide +kernel
theorem dX5_rows_81 : decode cX5_rows 81 = .ok (.invokevirtual 55, 3) := by decide +kernel
theorem dX5_rows_84 : decode cX5_rows 84 = .ok (.goto 5, 3) := by decide +kernel
theorem dX5_rows_87 : decode cX5_rows 87 = .ok (.bipush (-3), 2) := by decide +kernel
theorem dX5_rows_89 : decode cX5_rows 89 = .ok (.ireturn, 1) := by decide +kernel
theorem dX5_slopes_0 : decode cX5_slopes 0 = .ok (.aload_n 0, 1) := by decide +kernel
theorem dX5_slopes_1 : decode cX5_slopes 1 = .ok (.iload_n 1, 1) := by decide +kernel
theorem dX5_slopes_2 : decode cX5_slopes 2 = .ok (.invokevirtual 77, 3) := by decide +kernel
theorem dX5_slopes_5 : decode cX5_slopes 5 = .ok (.astore 6, 2) := by decide +kernel
theorem dX5_slopes_7 : decode cX5_slopes 7 = .ok (.aload_n 0, 1) := by decide +kernel
theorem dX5_slopes_8 : decode cX5_slopes 8 = .ok (.iload_n 2, 1) := by decide +kernel
theorem dX5_slopes_9 : decode cX5_slopes 9 = .ok (.invokevirtual 77, 3) := by decide +kernel
theorem dX5_slopes_12 : decode cX5_slopes 12 = .ok (.astore 7, 2) := by decide +kernel
theorem dX5_slopes_14 : decode cX5_slopes 14 = .ok (.aload_n 0, 1) := by decide +kernel
theorem dX5_slopes_15 : decode cX5_slopes 15 = .ok (.iload_n 3, 1) := by decide +kernel
theorem dX5_slopes_16 : decode cX5_slopes 16 = .ok (.invokevirtual 77, 3) := by decide +kernel
theorem dX5_slopes_19 : decode cX5_slopes 19 = .ok (.astore 8, 2) := by decide +kernel
theorem dX5_slopes_21 : decode cX5_slopes 21 = .ok (.aload 6, 2) := by decide +kernel
theorem dX5_slopes_23 : decode cX5_slopes 23 = .ok (.ifnull 21, 3) := by decide +kernel
theorem dX5_slopes_26 : decode cX5_slopes 26 = .ok (.aload 7, 2) := by decide +kernel
theorem dX5_slopes_28 : decode cX5_slopes 28 = .ok (.ifnull 16, 3) := by decide +kernel
theorem dX5_slopes_31 : decode cX5_slopes 31 = .ok (.aload 8, 2) := by decide +kernel
theorem dX5_slopes_33 : decode cX5_slopes 33 = .ok (.ifnull 11, 3) := by decide +kernel
theorem dX5_slopes_36 : decode cX5_slopes 36 = .ok (.iload 4, 2) := by decide +kernel
theorem dX5_slopes_38 : decode cX5_slopes 38 = .ok (.invokestatic 44, 3) := by decide +kernel
theorem dX5_slopes_41 : decode cX5_slopes 41 = .ok (.ifCond .ne 5, 3) := by decide +kernel
theorem dX5_slopes_44 : decode cX5_slopes 44 = .ok (.iconst (-1), 1) := by decide +kernel
theorem dX5_slopes_45 : decode cX5_slopes 45 = .ok (.ireturn, 1) := by decide +kernel
theorem dX5_slopes_46 : decode cX5_slopes 46 = .ok (.aload 6, 2) := by decide +kernel
theorem dX5_slopes_48 : decode cX5_slopes 48 = .ok (.getfield 98, 3) := by decide +kernel
theorem dX5_slopes_51 : decode cX5_slopes 51 = .ok (.aload 7, 2) := by decide +kernel
theorem dX5_slopes_53 : decode cX5_slopes 53 = .ok (.getfield 95, 3) := by decide +kernel
theorem dX5_slopes_56 : decode cX5_slopes 56 = .ok (.if_icmp .ne 29, 3) := by decide +kernel
theorem dX5_slopes_59 : decode cX5_slopes 59 = .ok (.aload 8, 2) := by decide +kernel
theorem dX5_slopes_61 : decode cX5_slopes 61 = .ok (.getfield 95, 3) := by decide +kernel
theorem dX5_slopes_64 : decode cX5_slopes 64 = .ok (.aload 6, 2) := by decide +kernel
theorem dX5_slopes_66 : decode cX5_slopes 66 = .ok (.getfield 95, 3) := by decide +kernel
theorem dX5_slopes_69 : decode cX5_slopes 69 = .ok (.if_icmp .ne 16, 3) := by decide +kernel
theorem dX5_slopes_72 : decode cX5_slopes 72 = .ok (.aload 8, 2) := by decide +kernel
theorem dX5_slopes_74 : decode cX5_slopes 74 = .ok (.getfield 98, 3) := by decide +kernel
theorem dX5_slopes_77 : decode cX5_slopes 77 = .ok (.aload 7, 2) := by decide +kernel
theorem dX5_slopes_79 : decode cX5_slopes 79 = .ok (.getfield 98, 3) := by decide +kernel
theorem dX5_slopes_82 : decode cX5_slopes 82 = .ok (.if_icmp .eq 6, 3) := by decide +kernel
theorem dX5_slopes_85 : decode cX5_slopes 85 = .ok (.bipush (-3), 2) := by decide +kernel
theorem dX5_slopes_87 : decode cX5_slopes 87 = .ok (.ireturn, 1) := by decide +kernel
theorem dX5_slopes_88 : decode cX5_slopes 88 = .ok (.iload 5, 2) := by decide +kernel
theorem dX5_slopes_90 : decode cX5_slopes 90 = .ok (.ifCond .eq 19, 3) := by decide +kernel
theorem dX5_slopes_93 : decode cX5_slopes 93 = .ok (.aload_n 0, 1) := by decide +kernel
theorem dX5_slopes_94 : decode cX5_slopes 94 = .ok (.getfield 30, 3) := by decide +kernel
theorem dX5_slopes_97 : decode cX5_slopes 97 = .ok (.aload 6, 2) := by decide +kernel
theorem dX5_slopes_99 : decode cX5_slopes 99 = .ok (.aload 7, 2) := by decide +kernel
theorem dX5_slopes_101 : decode cX5_slopes 101 = .ok (.aload 8, 2) := by decide +kernel
theorem dX5_slopes_103 : decode cX5_slopes 103 = .ok (.invokevirtual 161, 3) := by decide +kernel
theorem dX5_slopes_106 : decode cX5_slopes 106 = .ok (.goto 16, 3) := by decide +kernel
theorem dX5_slopes_109 : decode cX5_slopes 109 = .ok (.aload_n 0, 1) := by decide +kernel
theorem dX5_slopes_110 : decode cX5_slopes 110 = .ok (.getfield 30, 3) := by decide +kernel
theorem dX5_slopes_113 : decode cX5_slopes 113 = .ok (.aload 6, 2) := by decide +kernel
theorem dX5_slopes_115 : decode cX5_slopes 115 = .ok (.aload 7, 2) := by decide +kernel
theorem dX5_slopes_117 : decode cX5_slopes 117 = .ok (.aload 8, 2) := by decide +kernel
theorem dX5_slopes_119 : decode cX5_slopes 119 = .ok (.invokevirtual 165, 3) := by decide +kernel
theorem dX5_slopes_122 : decode cX5_slopes 122 = .ok (.aload_n 0, 1) := by decide +kernel
theorem dX5_slopes_123 : decode cX5_slopes 123 = .ok (.iload 4, 2) := by decide +kernel
theorem dX5_slopes_125 : decode cX5_slopes 125 = .ok (.invokevirtual 55, 3) := by decide +kernel
theorem dX5_slopes_128 : decode cX5_slopes 128 = .ok (.ireturn, 1) := by decide +kernel
theorem dX5_sum_0 : decode cX5_sum 0 = .ok (.aload_n 0, 1) := by decide +kernel
theorem dX5_sum_1 : decode cX5_sum 1 = .ok (.iload_n 1, 1) := by decide +kernel
theorem dX5_sum_2 : decode cX5_sum 2 = .ok (.invokevirtual 77, 3) := by decide +kernel
theorem dX5_sum_5 : decode cX5_sum 5 = .ok (.astore 4, 2) := by decide +kernel
theorem dX5_sum_7 : decode cX5_sum 7 = .ok (.aload 4, 2) := by decide +kernel
theorem dX5_sum_9 : decode cX5_sum 9 = .ok (.ifnull 28, 3) := by decide +kernel
theorem dX5_sum_12 : decode cX5_sum 12 = .ok (.iload_n 3, 1) := by decide +kernel
theorem dX5_sum_13 : decode cX5_sum 13 = .ok (.ifCond .lt 24, 3) := by decide +kernel
theorem dX5_sum_16 : decode cX5_sum 16 = .ok (.iload_n 3, 1) := by decide +kernel
theorem dX5_sum_17 : decode cX5_sum 17 = .ok (.iload_n 2, 1) := by decide +kernel
theorem dX5_sum_18 : decode cX5_sum 18 = .ok (.ifCond .eq 11, 3) := by decide +kernel
theorem dX5_sum_21 : decode cX5_sum 21 = .ok (.aload 4, 2) := by decide +kernel
theorem dX5_sum_23 : decode cX5_sum 23 = .ok (.getfield 95, 3) := by decide +kernel
theorem dX5_sum_26 : decode cX5_sum 26 = .ok (.goto 8, 3) := by decide +kernel
theorem dX5_sum_29 : decode cX5_sum 29 = .ok (.aload 4, 2) := by decide +kernel
theorem dX5_sum_31 : decode cX5_sum 31 = .ok (.getfield 98, 3) := by decide +kernel
theorem dX5_sum_34 : decode cX5_sum 34 = .ok (.if_icmp .lt 5, 3) := by decide +kernel
theorem dX5_sum_37 : decode cX5_sum 37 = .ok (.lconst 0, 1) := by decide +kernel
theorem dX5_sum_38 : decode cX5_sum 38 = .ok (.lreturn, 1) := by decide +kernel
theorem dX5_sum_39 : decode cX5_sum 39 = .ok (.iload_n 2, 1) := by decide +kernel
theorem dX5_sum_40 : decode cX5_sum 40 = .ok (.ifCond .eq 12, 3) := by decide +kernel
theorem dX5_sum_43 : decode cX5_sum 43 = .ok (.aload 4, 2) := by decide +kernel
theorem dX5_sum_45 : decode cX5_sum 45 = .ok (.iload_n 3, 1) := by decide +kernel
theorem dX5_sum_46 : decode cX5_sum 46 = .ok (.invokevirtual 168, 3) := by decide +kernel
theorem dX5_sum_49 : decode cX5_sum 49 = .ok (.goto 9, 3) := by decide +kernel
theorem dX5_sum_52 : decode cX5_sum 52 = .ok (.aload 4, 2) := by decide +kernel
theorem dX5_sum_54 : decode cX5_sum 54 = .ok (.iload_n 3, 1) := by decide +kernel
theorem dX5_sum_55 : decode cX5_sum 55 = .ok (.invokevirtual 172, 3) := by decide +kernel
theorem dX5_sum_58 : decode cX5_sum 58 = .ok (.lreturn, 1) := by decide +kernel
theorem dX5_cost_0 : decode cX5_cost 0 = .ok (.aload_n 0, 1) := by decide +kernel
theorem dX5_cost_1 : decode cX5_cost 1 = .ok (.iload_n 1, 1) := by decide +kernel
theorem dX5_cost_2 : decode cX5_cost 2 = .ok (.invokevirtual 77, 3) := by decide +kernel
theorem dX5_cost_5 : decode cX5_cost 5 = .ok (.astore 4, 2) := by decide +kernel
theorem dX5_cost_7 : decode cX5_cost 7 = .ok (.aload 4, 2) := by decide +kernel
theorem dX5_cost_9 : decode cX5_cost 9 = .ok (.ifnonnull 5, 3) := by decide +kernel
theorem dX5_cost_12 : decode cX5_cost 12 = .ok (.iconst (-1), 1) := by decide +kernel
theorem dX5_cost_13 : decode cX5_cost 13 = .ok (.ireturn, 1) := by decide +kernel
theorem dX5_cost_14 : decode cX5_cost 14 = .ok (.iload_n 2, 1) := by decide +kernel
theorem dX5_cost_15 : decode cX5_cost 15 = .ok (.iload_n 3, 1) := by decide +kernel
theorem dX5_cost_16 : decode cX5_cost 16 = .ok (.invokestatic 175, 3) := by decide +kernel
theorem dX5_cost_19 : decode cX5_cost 19 = .ok (.ifCond .ne 6, 3) := by decide +kernel
theorem dX5_cost_22 : decode cX5_cost 22 = .ok (.bipush (-2), 2) := by decide +kernel
theorem dX5_cost_24 : decode cX5_cost 24 = .ok (.ireturn, 1) := by decide +kernel
theorem dX5_cost_25 : decode cX5_cost 25 = .ok (.aload 4, 2) := by decide +kernel
theorem dX5_cost_27 : decode cX5_cost 27 = .ok (.iload_n 2, 1) := by decide +kernel
theorem dX5_cost_28 : decode cX5_cost 28 = .ok (.iload_n 3, 1) := by decide +kernel
theorem dX5_cost_29 : decode cX5_cost 29 = .ok (.aload_n 0, 1) := by decide +kernel
theorem dX5_cost_30 : decode cX5_cost 30 = .ok (.getfield 30, 3) := by decide +kernel
theorem dX5_cost_33 : decode cX5_cost 33 = .ok (.invokestatic 180, 3) := by decide +kernel
theorem dX5_cost_36 : decode cX5_cost 36 = .ok (.ireturn, 1) := by decide +kernel
theorem dX5_cheapest_0 : decode cX5_cheapest 0 = .ok (.aload_n 0, 1) := by decide +kernel
theorem dX5_cheapest_1 : decode cX5_cheapest 1 = .ok (.iload_n 1, 1) := by decide +kernel
theorem dX5_cheapest_2 : decode cX5_cheapest 2 = .ok (.invokevirtual 77, 3) := by decide +kernel
theorem dX5_cheapest_5 : decode cX5_cheapest 5 = .ok (.astore_n 3, 1) := by decide +kernel
theorem dX5_cheapest_6 : decode cX5_cheapest 6 = .ok (.aload_n 3, 1) := by decide +kernel
theorem dX5_cheapest_7 : decode cX5_cheapest 7 = .ok (.ifnonnull 5, 3) := by decide +kernel
theorem dX5_cheapest_10 : decode cX5_cheapest 10 = .ok (.iconst (-1), 1) := by decide +kernel
theorem dX5_cheapest_11 : decode cX5_cheapest 11 = .ok (.ireturn, 1) := by decide +kernel
theorem dX5_cheapest_12 : decode cX5_cheapest 12 = .ok (.iload_n 2, 1) := by decide +kernel
theorem dX5_cheapest_13 : decode cX5_cheapest 13 = .ok (.invokestatic 184, 3) := by decide +kernel
theorem dX5_cheapest_16 : decode cX5_cheapest 16 = .ok (.ifCond .ne 6, 3) := by decide +kernel
theorem dX5_cheapest_19 : decode cX5_cheapest 19 = .ok (.bipush (-2), 2) := by decide +kernel
theorem dX5_cheapest_21 : decode cX5_cheapest 21 = .ok (.ireturn, 1) := by decide +kernel
theorem dX5_cheapest_22 : decode cX5_cheapest 22 = .ok (.iconst 0, 1) := by decide +kernel
theorem dX5_cheapest_23 : decode cX5_cheapest 23 = .ok (.istore 4, 2) := by decide +kernel
theorem dX5_cheapest_25 : decode cX5_cheapest 25 = .ok (.aload_n 3, 1) := by decide +kernel
theorem dX5_cheapest_26 : decode cX5_cheapest 26 = .ok (.iload 4, 2) := by decide +kernel
theorem dX5_cheapest_28 : decode cX5_cheapest 28 = .ok (.iload_n 2, 1) := by decide +kernel
theorem dX5_cheapest_29 : decode cX5_cheapest 29 = .ok (.aload_n 0, 1) := by decide +kernel
theorem dX5_cheapest_30 : decode cX5_cheapest 30 = .ok (.getfield 30, 3) := by decide +kernel
theorem dX5_cheapest_33 : decode cX5_cheapest 33 = .ok (.invokestatic 180, 3) := by decide +kernel
theorem dX5_cheapest_36 : decode cX5_cheapest 36 = .ok (.istore 5, 2) := by decide +kernel
theorem dX5_cheapest_38 : decode cX5_cheapest 38 = .ok (.iconst 1, 1) := by decide +kernel
theorem dX5_cheapest_39 : decode cX5_cheapest 39 = .ok (.istore 6, 2) := by decide +kernel
theorem dX5_cheapest_41 : decode cX5_cheapest 41 = .ok (.iload 6, 2) := by decide +kernel
theorem dX5_cheapest_43 : decode cX5_cheapest 43 = .ok (.iconst 5, 1) := by decide +kernel
theorem dX5_cheapest_44 : decode cX5_cheapest 44 = .ok (.if_icmp .gt 37, 3) := by decide +kernel
theorem dX5_cheapest_47 : decode cX5_cheapest 47 = .ok (.aload_n 3, 1) := by decide +kernel
theorem dX5_cheapest_48 : decode cX5_cheapest 48 = .ok (.iload 6, 2) := by decide +kernel
theorem dX5_cheapest_50 : decode cX5_cheapest 50 = .ok (.iload_n 2, 1) := by decide +kernel
theorem dX5_cheapest_51 : decode cX5_cheapest 51 = .ok (.aload_n 0, 1) := by decide +kernel
theorem dX5_cheapest_52 : decode cX5_cheapest 52 = .ok (.getfield 30, 3) := by decide +kernel
theorem dX5_cheapest_55 : decode cX5_cheapest 55 = .ok (.invokestatic 180, 3) := by decide +kernel
theorem dX5_cheapest_58 : decode cX5_cheapest 58 = .ok (.istore 7, 2) := by decide +kernel
theorem dX5_cheapest_60 : decode cX5_cheapest 60 = .ok (.iload 7, 2) := by decide +kernel
theorem dX5_cheapest_62 : decode cX5_cheapest 62 = .ok (.iload 5, 2) := by decide +kernel
theorem dX5_cheapest_64 : decode cX5_cheapest 64 = .ok (.if_icmp .ge 11, 3) := by decide +kernel
theorem dX5_cheapest_67 : decode cX5_cheapest 67 = .ok (.iload 6, 2) := by decide +kernel
theorem dX5_cheapest_69 : decode cX5_cheapest 69 = .ok (.istore 4, 2) := by decide +kernel
theorem dX5_cheapest_71 : decode cX5_cheapest 71 = .ok (.iload 7, 2) := by decide +kernel
theorem dX5_cheapest_73 : decode cX5_cheapest 73 = .ok (.istore 5, 2) := by decide +kernel
theorem dX5_cheapest_75 : decode cX5_cheapest 75 = .ok (.iinc 6 1, 3) := by decide +kernel
theorem dX5_cheapest_78 : decode cX5_cheapest 78 = .ok (.goto (-37), 3) := by decide +kernel
theorem dX5_cheapest_81 : decode cX5_cheapest 81 = .ok (.iload 4, 2) := by decide +kernel
theorem dX5_cheapest_83 : decode cX5_cheapest 83 = .ok (.ireturn, 1) := by decide +kernel
theorem dX5_cell_0 : decode cX5_cell 0 = .ok (.aload_n 0, 1) := by decide +kernel
theorem dX5_cell_1 : decode cX5_cell 1 = .ok (.iload_n 1, 1) := by decide +kernel
theorem dX5_cell_2 : decode cX5_cell 2 = .ok (.invokevirtual 77, 3) := by decide +kernel
theorem dX5_cell_5 : decode cX5_cell 5 = .ok (.astore 5, 2) := by decide +kernel
theorem dX5_cell_7 : decode cX5_cell 7 = .ok (.aload 5, 2) := by decide +kernel
theorem dX5_cell_9 : decode cX5_cell 9 = .ok (.ifnull 11, 3) := by decide +kernel
theorem dX5_cell_12 : decode cX5_cell 12 = .ok (.iload_n 2, 1) := by decide +kernel
theorem dX5_cell_13 : decode cX5_cell 13 = .ok (.iload_n 3, 1) := by decide +kernel
theorem dX5_cell_14 : decode cX5_cell 14 = .ok (.invokestatic 175, 3) := by decide +kernel
theorem dX5_cell_17 : decode cX5_cell 17 = .ok (.ifCond .ne 5, 3) := by decide +kernel
theorem dX5_cell_20 : decode cX5_cell 20 = .ok (.lconst 0, 1) := by decide +kernel
theorem dX5_cell_21 : decode cX5_cell 21 = .ok (.lreturn, 1) := by decide +kernel
theorem dX5_cell_22 : decode cX5_cell 22 = .ok (.iload 4, 2) := by decide +kernel
theorem dX5_cell_24 : decode cX5_cell 24 = .ok (.ifCond .lt 19, 3) := by decide +kernel
theorem dX5_cell_27 : decode cX5_cell 27 = .ok (.iload 4, 2) := by decide +kernel
theorem dX5_cell_29 : decode cX5_cell 29 = .ok (.aload 5, 2) := by decide +kernel
theorem dX5_cell_31 : decode cX5_cell 31 = .ok (.iload_n 2, 1) := by decide +kernel
theorem dX5_cell_32 : decode cX5_cell 32 = .ok (.iload_n 3, 1) := by decide +kernel
theorem dX5_cell_33 : decode cX5_cell 33 = .ok (.aload_n 0, 1) := by decide +kernel
theorem dX5_cell_34 : decode cX5_cell 34 = .ok (.getfield 30, 3) := by decide +kernel
theorem dX5_cell_37 : decode cX5_cell 37 = .ok (.invokestatic 180, 3) := by decide +kernel
theorem dX5_cell_40 : decode cX5_cell 40 = .ok (.if_icmp .lt 5, 3) := by decide +kernel
theorem dX5_cell_43 : decode cX5_cell 43 = .ok (.lconst 0, 1) := by decide +kernel
theorem dX5_cell_44 : decode cX5_cell 44 = .ok (.lreturn, 1) := by decide +kernel
theorem dX5_cell_45 : decode cX5_cell 45 = .ok (.aload 5, 2) := by decide +kernel
theorem dX5_cell_47 : decode cX5_cell 47 = .ok (.iload_n 2, 1) := by decide +kernel
theorem dX5_cell_48 : decode cX5_cell 48 = .ok (.iload_n 3, 1) := by decide +kernel
theorem dX5_cell_49 : decode cX5_cell 49 = .ok (.iload 4, 2) := by decide +kernel
theorem dX5_cell_51 : decode cX5_cell 51 = .ok (.aload_n 0, 1) := by decide +kernel
theorem dX5_cell_52 : decode cX5_cell 52 = .ok (.getfield 30, 3) := by decide +kernel
theorem dX5_cell_55 : decode cX5_cell 55 = .ok (.invokestatic 187, 3) := by decide +kernel
theorem dX5_cell_58 : decode cX5_cell 58 = .ok (.lreturn, 1) := by decide +kernel
theorem dX5_walks_0 : decode cX5_walks 0 = .ok (.aload_n 0, 1) := by decide +kernel
theorem dX5_walks_1 : decode cX5_walks 1 = .ok (.iload_n 1, 1) := by decide +kernel
theorem dX5_walks_2 : decode cX5_walks 2 = .ok (.invokevirtual 77, 3) := by decide +kernel
theorem dX5_walks_5 : decode cX5_walks 5 = .ok (.astore 5, 2) := by decide +kernel
theorem dX5_walks_7 : decode cX5_walks 7 = .ok (.aload 5, 2) := by decide +kernel
theorem dX5_walks_9 : decode cX5_walks 9 = .ok (.ifnull 21, 3) := by decide +kernel
theorem dX5_walks_12 : decode cX5_walks 12 = .ok (.aload 5, 2) := by decide +kernel
theorem dX5_walks_14 : decode cX5_walks 14 = .ok (.invokevirtual 191, 3) := by decide +kernel
theorem dX5_walks_17 : decode cX5_walks 17 = .ok (.ifCond .eq 13, 3) := by decide +kernel
theorem dX5_walks_20 : decode cX5_walks 20 = .ok (.aload 5, 2) := by decide +kernel
theorem dX5_walks_22 : decode cX5_walks 22 = .ok (.iload_n 2, 1) := by decide +kernel
theorem dX5_walks_23 : decode cX5_walks 23 = .ok (.iload_n 3, 1) := by decide +kernel
theorem dX5_walks_24 : decode cX5_walks 24 = .ok (.invokevirtual 108, 3) := by decide +kernel
theorem dX5_walks_27 : decode cX5_walks 27 = .ok (.ifCond .ne 5, 3) := by decide +kernel
theorem dX5_walks_30 : decode cX5_walks 30 = .ok (.lconst 0, 1) := by decide +kernel
theorem dX5_walks_31 : decode cX5_walks 31 = .ok (.lreturn, 1) := by decide +kernel
theorem dX5_walks_32 : decode cX5_walks 32 = .ok (.iload 4, 2) := by decide +kernel
theorem dX5_walks_34 : decode cX5_walks 34 = .ok (.ifCond .lt 10, 3) := by decide +kernel
theorem dX5_walks_37 : decode cX5_walks 37 = .ok (.iload 4, 2) := by decide +kernel
theorem dX5_walks_39 : decode cX5_walks 39 = .ok (.bipush 60, 2) := by decide +kernel
theorem dX5_walks_41 : decode cX5_walks 41 = .ok (.if_icmp .le 5, 3) := by decide +kernel
theorem dX5_walks_44 : decode cX5_walks 44 = .ok (.lconst 0, 1) := by decide +kernel
theorem dX5_walks_45 : decode cX5_walks 45 = .ok (.lreturn, 1) := by decide +kernel
theorem dX5_walks_46 : decode cX5_walks 46 = .ok (.aload_n 0, 1) := by decide +kernel
theorem dX5_walks_47 : decode cX5_walks 47 = .ok (.getfield 25, 3) := by decide +kernel
theorem dX5_walks_50 : decode cX5_walks 50 = .ok (.aload 5, 2) := by decide +kernel
theorem dX5_walks_52 : decode cX5_walks 52 = .ok (.iload_n 2, 1) := by decide +kernel
theorem dX5_walks_53 : decode cX5_walks 53 = .ok (.iload_n 3, 1) := by decide +kernel
theorem dX5_walks_54 : decode cX5_walks 54 = .ok (.iload 4, 2) := by decide +kernel
theorem dX5_walks_56 : decode cX5_walks 56 = .ok (.invokevirtual 195, 3) := by decide +kernel
theorem dX5_walks_59 : decode cX5_walks 59 = .ok (.lreturn, 1) := by decide +kernel
theorem dX5_way_0 : decode cX5_way 0 = .ok (.aload_n 0, 1) := by decide +kernel
theorem dX5_way_1 : decode cX5_way 1 = .ok (.iload_n 1, 1) := by decide +kernel
theorem dX5_way_2 : decode cX5_way 2 = .ok (.invokevirtual 77, 3) := by decide +kernel
theorem dX5_way_5 : decode cX5_way 5 = .ok (.astore 4, 2) := by decide +kernel
theorem dX5_way_7 : decode cX5_way 7 = .ok (.aload 4, 2) := by decide +kernel
theorem dX5_way_9 : decode cX5_way 9 = .ok (.ifnonnull 5, 3) := by decide +kernel
theorem dX5_way_12 : decode cX5_way 12 = .ok (.iconst (-1), 1) := by decide +kernel
theorem dX5_way_13 : decode cX5_way 13 = .ok (.ireturn, 1) := by decide +kernel
theorem dX5_way_14 : decode cX5_way 14 = .ok (.aload 4, 2) := by decide +kernel
theorem dX5_way_16 : decode cX5_way 16 = .ok (.iload_n 2, 1) := by decide +kernel
theorem dX5_way_17 : decode cX5_way 17 = .ok (.invokevirtual 199, 3) := by decide +kernel
theorem dX5_way_20 : decode cX5_way 20 = .ok (.ifCond .eq 12, 3) := by decide +kernel
theorem dX5_way_23 : decode cX5_way 23 = .ok (.aload 4, 2) := by decide +kernel
theorem dX5_way_25 : decode cX5_way 25 = .ok (.iload_n 3, 1) := by decide +kernel
theorem dX5_way_26 : decode cX5_way 26 = .ok (.invokevirtual 199, 3) := by decide +kernel
theorem dX5_way_29 : decode cX5_way 29 = .ok (.ifCond .ne 6, 3) := by decide +kernel
theorem dX5_way_32 : decode cX5_way 32 = .ok (.bipush (-2), 2) := by decide +kernel
theorem dX5_way_34 : decode cX5_way 34 = .ok (.ireturn, 1) := by decide +kernel
theorem dX5_way_35 : decode cX5_way 35 = .ok (.aload 4, 2) := by decide +kernel
theorem dX5_way_37 : decode cX5_way 37 = .ok (.invokevirtual 191, 3) := by decide +kernel
theorem dX5_way_40 : decode cX5_way 40 = .ok (.ifCond .ne 6, 3) := by decide +kernel
theorem dX5_way_43 : decode cX5_way 43 = .ok (.bipush (-3), 2) := by decide +kernel
theorem dX5_way_45 : decode cX5_way 45 = .ok (.ireturn, 1) := by decide +kernel
theorem dX5_way_46 : decode cX5_way 46 = .ok (.aload_n 0, 1) := by decide +kernel
theorem dX5_way_47 : decode cX5_way 47 = .ok (.getfield 25, 3) := by decide +kernel
theorem dX5_way_50 : decode cX5_way 50 = .ok (.aload 4, 2) := by decide +kernel
theorem dX5_way_52 : decode cX5_way 52 = .ok (.invokevirtual 202, 3) := by decide +kernel
theorem dX5_way_55 : decode cX5_way 55 = .ok (.aload_n 0, 1) := by decide +kernel
theorem dX5_way_56 : decode cX5_way 56 = .ok (.getfield 25, 3) := by decide +kernel
theorem dX5_way_59 : decode cX5_way 59 = .ok (.iload_n 2, 1) := by decide +kernel
theorem dX5_way_60 : decode cX5_way 60 = .ok (.iload_n 3, 1) := by decide +kernel
theorem dX5_way_61 : decode cX5_way 61 = .ok (.invokevirtual 205, 3) := by decide +kernel
theorem dX5_way_64 : decode cX5_way 64 = .ok (.ireturn, 1) := by decide +kernel
theorem dX5_ring_0 : decode cX5_ring 0 = .ok (.aload_n 0, 1) := by decide +kernel
theorem dX5_ring_1 : decode cX5_ring 1 = .ok (.iload_n 1, 1) := by decide +kernel
theorem dX5_ring_2 : decode cX5_ring 2 = .ok (.invokevirtual 77, 3) := by decide +kernel
theorem dX5_ring_5 : decode cX5_ring 5 = .ok (.astore_n 3, 1) := by decide +kernel
