theorem dX5_ring_6 : decode cX5_ring 6 = .ok (.aload_n 3, 1) := by decide +kernel
theorem dX5_ring_7 : decode cX5_ring 7 = .ok (.ifnonnull 5, 3) := by decide +kernel
theorem dX5_ring_10 : decode cX5_ring 10 = .ok (.iconst (-1), 1) := by decide +kernel
theorem dX5_ring_11 : decode cX5_ring 11 = .ok (.ireturn, 1) := by decide +kernel
theorem dX5_ring_12 : decode cX5_ring 12 = .ok (.iload_n 2, 1) := by decide +kernel
theorem dX5_ring_13 : decode cX5_ring 13 = .ok (.iconst (-1), 1) := by decide +kernel
theorem dX5_ring_14 : decode cX5_ring 14 = .ok (.if_icmp .eq 14, 3) := by decide +kernel
theorem dX5_ring_17 : decode cX5_ring 17 = .ok (.aload_n 3, 1) := by decide +kernel
theorem dX5_ring_18 : decode cX5_ring 18 = .ok (.iload_n 2, 1) := by decide +kernel
theorem dX5_ring_19 : decode cX5_ring 19 = .ok (.invokevirtual 199, 3) := by decide +kernel
theorem dX5_ring_22 : decode cX5_ring 22 = .ok (.ifCond .ne 6, 3) := by decide +kernel
theorem dX5_ring_25 : decode cX5_ring 25 = .ok (.bipush (-2), 2) := by decide +kernel
theorem dX5_ring_27 : decode cX5_ring 27 = .ok (.ireturn, 1) := by decide +kernel
theorem dX5_ring_28 : decode cX5_ring 28 = .ok (.aload_n 3, 1) := by decide +kernel
theorem dX5_ring_29 : decode cX5_ring 29 = .ok (.invokevirtual 191, 3) := by decide +kernel
theorem dX5_ring_32 : decode cX5_ring 32 = .ok (.ifCond .ne 6, 3) := by decide +kernel
theorem dX5_ring_35 : decode cX5_ring 35 = .ok (.bipush (-3), 2) := by decide +kernel
theorem dX5_ring_37 : decode cX5_ring 37 = .ok (.ireturn, 1) := by decide +kernel
theorem dX5_ring_38 : decode cX5_ring 38 = .ok (.aload_n 0, 1) := by decide +kernel
theorem dX5_ring_39 : decode cX5_ring 39 = .ok (.getfield 25, 3) := by decide +kernel
theorem dX5_ring_42 : decode cX5_ring 42 = .ok (.aload_n 3, 1) := by decide +kernel
theorem dX5_ring_43 : decode cX5_ring 43 = .ok (.invokevirtual 202, 3) := by decide +kernel
theorem dX5_ring_46 : decode cX5_ring 46 = .ok (.aload_n 0, 1) := by decide +kernel
theorem dX5_ring_47 : decode cX5_ring 47 = .ok (.getfield 25, 3) := by decide +kernel
theorem dX5_ring_50 : decode cX5_ring 50 = .ok (.invokevirtual 208, 3) := by decide +kernel
theorem dX5_ring_53 : decode cX5_ring 53 = .ok (.aload_n 0, 1) := by decide +kernel
theorem dX5_ring_54 : decode cX5_ring 54 = .ok (.getfield 25, 3) := by decide +kernel
theorem dX5_ring_57 : decode cX5_ring 57 = .ok (.iload_n 2, 1) := by decide +kernel
theorem dX5_ring_58 : decode cX5_ring 58 = .ok (.iconst (-1), 1) := by decide +kernel
theorem dX5_ring_59 : decode cX5_ring 59 = .ok (.if_icmp .ne 10, 3) := by decide +kernel
theorem dX5_ring_62 : decode cX5_ring 62 = .ok (.aload_n 3, 1) := by decide +kernel
theorem dX5_ring_63 : decode cX5_ring 63 = .ok (.getfield 95, 3) := by decide +kernel
theorem dX5_ring_66 : decode cX5_ring 66 = .ok (.goto 11, 3) := by decide +kernel
theorem dX5_ring_69 : decode cX5_ring 69 = .ok (.aload_n 0, 1) := by decide +kernel
theorem dX5_ring_70 : decode cX5_ring 70 = .ok (.getfield 25, 3) := by decide +kernel
theorem dX5_ring_73 : decode cX5_ring 73 = .ok (.iload_n 2, 1) := by decide +kernel
theorem dX5_ring_74 : decode cX5_ring 74 = .ok (.invokevirtual 211, 3) := by decide +kernel
theorem dX5_ring_77 : decode cX5_ring 77 = .ok (.invokevirtual 214, 3) := by decide +kernel
theorem dX5_ring_80 : decode cX5_ring 80 = .ok (.ireturn, 1) := by decide +kernel
theorem dX5_sort_0 : decode cX5_sort 0 = .ok (.aload_n 0, 1) := by decide +kernel
theorem dX5_sort_1 : decode cX5_sort 1 = .ok (.iload_n 1, 1) := by decide +kernel
theorem dX5_sort_2 : decode cX5_sort 2 = .ok (.invokevirtual 77, 3) := by decide +kernel
theorem dX5_sort_5 : decode cX5_sort 5 = .ok (.astore_n 2, 1) := by decide +kernel
theorem dX5_sort_6 : decode cX5_sort 6 = .ok (.aload_n 2, 1) := by decide +kernel
theorem dX5_sort_7 : decode cX5_sort 7 = .ok (.ifnonnull 5, 3) := by decide +kernel
theorem dX5_sort_10 : decode cX5_sort 10 = .ok (.iconst (-1), 1) := by decide +kernel
theorem dX5_sort_11 : decode cX5_sort 11 = .ok (.ireturn, 1) := by decide +kernel
theorem dX5_sort_12 : decode cX5_sort 12 = .ok (.aload_n 2, 1) := by decide +kernel
theorem dX5_sort_13 : decode cX5_sort 13 = .ok (.invokevirtual 191, 3) := by decide +kernel
theorem dX5_sort_16 : decode cX5_sort 16 = .ok (.ifCond .ne 6, 3) := by decide +kernel
theorem dX5_sort_19 : decode cX5_sort 19 = .ok (.bipush (-3), 2) := by decide +kernel
theorem dX5_sort_21 : decode cX5_sort 21 = .ok (.ireturn, 1) := by decide +kernel
theorem dX5_sort_22 : decode cX5_sort 22 = .ok (.aload_n 0, 1) := by decide +kernel
theorem dX5_sort_23 : decode cX5_sort 23 = .ok (.getfield 25, 3) := by decide +kernel
theorem dX5_sort_26 : decode cX5_sort 26 = .ok (.aload_n 2, 1) := by decide +kernel
theorem dX5_sort_27 : decode cX5_sort 27 = .ok (.invokevirtual 202, 3) := by decide +kernel
theorem dX5_sort_30 : decode cX5_sort 30 = .ok (.aload_n 0, 1) := by decide +kernel
theorem dX5_sort_31 : decode cX5_sort 31 = .ok (.getfield 25, 3) := by decide +kernel
theorem dX5_sort_34 : decode cX5_sort 34 = .ok (.aload_n 0, 1) := by decide +kernel
theorem dX5_sort_35 : decode cX5_sort 35 = .ok (.getfield 41, 3) := by decide +kernel
theorem dX5_sort_38 : decode cX5_sort 38 = .ok (.invokevirtual 217, 3) := by decide +kernel
theorem dX5_sort_41 : decode cX5_sort 41 = .ok (.ifCond .ne 6, 3) := by decide +kernel
theorem dX5_sort_44 : decode cX5_sort 44 = .ok (.bipush (-3), 2) := by decide +kernel
theorem dX5_sort_46 : decode cX5_sort 46 = .ok (.ireturn, 1) := by decide +kernel
theorem dX5_sort_47 : decode cX5_sort 47 = .ok (.aload_n 0, 1) := by decide +kernel
theorem dX5_sort_48 : decode cX5_sort 48 = .ok (.invokevirtual 221, 3) := by decide +kernel
theorem dX5_sort_51 : decode cX5_sort 51 = .ok (.aload_n 0, 1) := by decide +kernel
theorem dX5_sort_52 : decode cX5_sort 52 = .ok (.getfield 37, 3) := by decide +kernel
theorem dX5_sort_55 : decode cX5_sort 55 = .ok (.getfield 70, 3) := by decide +kernel
theorem dX5_sort_58 : decode cX5_sort 58 = .ok (.ireturn, 1) := by decide +kernel
theorem dX5_narrow_0 : decode cX5_narrow 0 = .ok (.aload_n 0, 1) := by decide +kernel
theorem dX5_narrow_1 : decode cX5_narrow 1 = .ok (.iload_n 1, 1) := by decide +kernel
theorem dX5_narrow_2 : decode cX5_narrow 2 = .ok (.invokevirtual 77, 3) := by decide +kernel
theorem dX5_narrow_5 : decode cX5_narrow 5 = .ok (.astore_n 2, 1) := by decide +kernel
theorem dX5_narrow_6 : decode cX5_narrow 6 = .ok (.aload_n 2, 1) := by decide +kernel
theorem dX5_narrow_7 : decode cX5_narrow 7 = .ok (.ifnonnull 5, 3) := by decide +kernel
theorem dX5_narrow_10 : decode cX5_narrow 10 = .ok (.iconst (-1), 1) := by decide +kernel
theorem dX5_narrow_11 : decode cX5_narrow 11 = .ok (.ireturn, 1) := by decide +kernel
theorem dX5_narrow_12 : decode cX5_narrow 12 = .ok (.aload_n 2, 1) := by decide +kernel
theorem dX5_narrow_13 : decode cX5_narrow 13 = .ok (.invokevirtual 191, 3) := by decide +kernel
theorem dX5_narrow_16 : decode cX5_narrow 16 = .ok (.ifCond .ne 6, 3) := by decide +kernel
theorem dX5_narrow_19 : decode cX5_narrow 19 = .ok (.bipush (-3), 2) := by decide +kernel
theorem dX5_narrow_21 : decode cX5_narrow 21 = .ok (.ireturn, 1) := by decide +kernel
theorem dX5_narrow_22 : decode cX5_narrow 22 = .ok (.aload_n 0, 1) := by decide +kernel
theorem dX5_narrow_23 : decode cX5_narrow 23 = .ok (.getfield 25, 3) := by decide +kernel
theorem dX5_narrow_26 : decode cX5_narrow 26 = .ok (.aload_n 2, 1) := by decide +kernel
theorem dX5_narrow_27 : decode cX5_narrow 27 = .ok (.invokevirtual 202, 3) := by decide +kernel
theorem dX5_narrow_30 : decode cX5_narrow 30 = .ok (.aload_n 0, 1) := by decide +kernel
theorem dX5_narrow_31 : decode cX5_narrow 31 = .ok (.getfield 25, 3) := by decide +kernel
theorem dX5_narrow_34 : decode cX5_narrow 34 = .ok (.aload_n 0, 1) := by decide +kernel
theorem dX5_narrow_35 : decode cX5_narrow 35 = .ok (.getfield 41, 3) := by decide +kernel
theorem dX5_narrow_38 : decode cX5_narrow 38 = .ok (.invokevirtual 224, 3) := by decide +kernel
theorem dX5_narrow_41 : decode cX5_narrow 41 = .ok (.aload_n 0, 1) := by decide +kernel
theorem dX5_narrow_42 : decode cX5_narrow 42 = .ok (.invokevirtual 221, 3) := by decide +kernel
theorem dX5_narrow_45 : decode cX5_narrow 45 = .ok (.aload_n 0, 1) := by decide +kernel
theorem dX5_narrow_46 : decode cX5_narrow 46 = .ok (.getfield 25, 3) := by decide +kernel
theorem dX5_narrow_49 : decode cX5_narrow 49 = .ok (.aload_n 0, 1) := by decide +kernel
theorem dX5_narrow_50 : decode cX5_narrow 50 = .ok (.getfield 37, 3) := by decide +kernel
theorem dX5_narrow_53 : decode cX5_narrow 53 = .ok (.invokevirtual 228, 3) := by decide +kernel
theorem dX5_narrow_56 : decode cX5_narrow 56 = .ok (.ireturn, 1) := by decide +kernel
theorem dX5_width_0 : decode cX5_width 0 = .ok (.aload_n 0, 1) := by decide +kernel
theorem dX5_width_1 : decode cX5_width 1 = .ok (.iload_n 1, 1) := by decide +kernel
theorem dX5_width_2 : decode cX5_width 2 = .ok (.invokevirtual 77, 3) := by decide +kernel
theorem dX5_width_5 : decode cX5_width 5 = .ok (.astore_n 2, 1) := by decide +kernel
theorem dX5_width_6 : decode cX5_width 6 = .ok (.aload_n 2, 1) := by decide +kernel
theorem dX5_width_7 : decode cX5_width 7 = .ok (.ifnonnull 5, 3) := by decide +kernel
theorem dX5_width_10 : decode cX5_width 10 = .ok (.iconst (-1), 1) := by decide +kernel
theorem dX5_width_11 : decode cX5_width 11 = .ok (.ireturn, 1) := by decide +kernel
theorem dX5_width_12 : decode cX5_width 12 = .ok (.aload_n 2, 1) := by decide +kernel
theorem dX5_width_13 : decode cX5_width 13 = .ok (.invokevirtual 191, 3) := by decide +kernel
theorem dX5_width_16 : decode cX5_width 16 = .ok (.ifCond .eq 17, 3) := by decide +kernel
theorem dX5_width_19 : decode cX5_width 19 = .ok (.aload_n 0, 1) := by decide +kernel
theorem dX5_width_20 : decode cX5_width 20 = .ok (.getfield 37, 3) := by decide +kernel
theorem dX5_width_23 : decode cX5_width 23 = .ok (.aload_n 2, 1) := by decide +kernel
theorem dX5_width_24 : decode cX5_width 24 = .ok (.getfield 95, 3) := by decide +kernel
theorem dX5_width_27 : decode cX5_width 27 = .ok (.invokevirtual 232, 3) := by decide +kernel
theorem dX5_width_30 : decode cX5_width 30 = .ok (.ifCond .ne 6, 3) := by decide +kernel
theorem dX5_width_33 : decode cX5_width 33 = .ok (.bipush (-3), 2) := by decide +kernel
theorem dX5_width_35 : decode cX5_width 35 = .ok (.ireturn, 1) := by decide +kernel
theorem dX5_width_36 : decode cX5_width 36 = .ok (.aload_n 0, 1) := by decide +kernel
theorem dX5_width_37 : decode cX5_width 37 = .ok (.getfield 25, 3) := by decide +kernel
theorem dX5_width_40 : decode cX5_width 40 = .ok (.aload_n 2, 1) := by decide +kernel
theorem dX5_width_41 : decode cX5_width 41 = .ok (.invokevirtual 202, 3) := by decide +kernel
theorem dX5_width_44 : decode cX5_width 44 = .ok (.aload_n 0, 1) := by decide +kernel
theorem dX5_width_45 : decode cX5_width 45 = .ok (.getfield 25, 3) := by decide +kernel
theorem dX5_width_48 : decode cX5_width 48 = .ok (.aload_n 0, 1) := by decide +kernel
theorem dX5_width_49 : decode cX5_width 49 = .ok (.getfield 37, 3) := by decide +kernel
theorem dX5_width_52 : decode cX5_width 52 = .ok (.invokevirtual 228, 3) := by decide +kernel
theorem dX5_width_55 : decode cX5_width 55 = .ok (.ireturn, 1) := by decide +kernel
theorem dX5_isSlot_0 : decode cX5_isSlot 0 = .ok (.iload_n 0, 1) := by decide +kernel
theorem dX5_isSlot_1 : decode cX5_isSlot 1 = .ok (.ifCond .lt 13, 3) := by decide +kernel
theorem dX5_isSlot_4 : decode cX5_isSlot 4 = .ok (.iload_n 0, 1) := by decide +kernel
theorem dX5_isSlot_5 : decode cX5_isSlot 5 = .ok (.bipush 8, 2) := by decide +kernel
theorem dX5_isSlot_7 : decode cX5_isSlot 7 = .ok (.if_icmp .ge 7, 3) := by decide +kernel
theorem dX5_isSlot_10 : decode cX5_isSlot 10 = .ok (.iconst 1, 1) := by decide +kernel
theorem dX5_isSlot_11 : decode cX5_isSlot 11 = .ok (.goto 4, 3) := by decide +kernel
theorem dX5_isSlot_14 : decode cX5_isSlot 14 = .ok (.iconst 0, 1) := by decide +kernel
theorem dX5_isSlot_15 : decode cX5_isSlot 15 = .ok (.ireturn, 1) := by decide +kernel
theorem dX5_isSize_0 : decode cX5_isSize 0 = .ok (.iload_n 0, 1) := by decide +kernel
theorem dX5_isSize_1 : decode cX5_isSize 1 = .ok (.iconst 1, 1) := by decide +kernel
theorem dX5_isSize_2 : decode cX5_isSize 2 = .ok (.if_icmp .lt 13, 3) := by decide +kernel
theorem dX5_isSize_5 : decode cX5_isSize 5 = .ok (.iload_n 0, 1) := by decide +kernel
theorem dX5_isSize_6 : decode cX5_isSize 6 = .ok (.bipush 16, 2) := by decide +kernel
theorem dX5_isSize_8 : decode cX5_isSize 8 = .ok (.if_icmp .gt 7, 3) := by decide +kernel
theorem dX5_isSize_11 : decode cX5_isSize 11 = .ok (.iconst 1, 1) := by decide +kernel
theorem dX5_isSize_12 : decode cX5_isSize 12 = .ok (.goto 4, 3) := by decide +kernel
theorem dX5_isSize_15 : decode cX5_isSize 15 = .ok (.iconst 0, 1) := by decide +kernel
theorem dX5_isSize_16 : decode cX5_isSize 16 = .ok (.ireturn, 1) := by decide +kernel
theorem dX5_isLine_0 : decode cX5_isLine 0 = .ok (.iload_n 0, 1) := by decide +kernel
theorem dX5_isLine_1 : decode cX5_isLine 1 = .ok (.ifCond .lt 13, 3) := by decide +kernel
theorem dX5_isLine_4 : decode cX5_isLine 4 = .ok (.iload_n 0, 1) := by decide +kernel
theorem dX5_isLine_5 : decode cX5_isLine 5 = .ok (.bipush 16, 2) := by decide +kernel
theorem dX5_isLine_7 : decode cX5_isLine 7 = .ok (.if_icmp .ge 7, 3) := by decide +kernel
theorem dX5_isLine_10 : decode cX5_isLine 10 = .ok (.iconst 1, 1) := by decide +kernel
theorem dX5_isLine_11 : decode cX5_isLine 11 = .ok (.goto 4, 3) := by decide +kernel
theorem dX5_isLine_14 : decode cX5_isLine 14 = .ok (.iconst 0, 1) := by decide +kernel
theorem dX5_isLine_15 : decode cX5_isLine 15 = .ok (.ireturn, 1) := by decide +kernel
theorem dX5_hasBit_0 : decode cX5_hasBit 0 = .ok (.iload_n 0, 1) := by decide +kernel
theorem dX5_hasBit_1 : decode cX5_hasBit 1 = .ok (.iload_n 1, 1) := by decide +kernel
theorem dX5_hasBit_2 : decode cX5_hasBit 2 = .ok (.ishr, 1) := by decide +kernel
theorem dX5_hasBit_3 : decode cX5_hasBit 3 = .ok (.iconst 1, 1) := by decide +kernel
theorem dX5_hasBit_4 : decode cX5_hasBit 4 = .ok (.iand, 1) := by decide +kernel
theorem dX5_hasBit_5 : decode cX5_hasBit 5 = .ok (.ifCond .eq 7, 3) := by decide +kernel
theorem dX5_hasBit_8 : decode cX5_hasBit 8 = .ok (.iconst 1, 1) := by decide +kernel
theorem dX5_hasBit_9 : decode cX5_hasBit 9 = .ok (.goto 4, 3) := by decide +kernel
theorem dX5_hasBit_12 : decode cX5_hasBit 12 = .ok (.iconst 0, 1) := by decide +kernel
theorem dX5_hasBit_13 : decode cX5_hasBit 13 = .ok (.ireturn, 1) := by decide +kernel
theorem dX5_gridAt_0 : decode cX5_gridAt 0 = .ok (.iload_n 1, 1) := by decide +kernel
theorem dX5_gridAt_1 : decode cX5_gridAt 1 = .ok (.invokestatic 44, 3) := by decide +kernel
theorem dX5_gridAt_4 : decode cX5_gridAt 4 = .ok (.ifCond .ne 5, 3) := by decide +kernel
theorem dX5_gridAt_7 : decode cX5_gridAt 7 = .ok (.aconst_null, 1) := by decide +kernel
theorem dX5_gridAt_8 : decode cX5_gridAt 8 = .ok (.areturn, 1) := by decide +kernel
theorem dX5_gridAt_9 : decode cX5_gridAt 9 = .ok (.aload_n 0, 1) := by decide +kernel
theorem dX5_gridAt_10 : decode cX5_gridAt 10 = .ok (.getfield 11, 3) := by decide +kernel
theorem dX5_gridAt_13 : decode cX5_gridAt 13 = .ok (.iload_n 1, 1) := by decide +kernel
theorem dX5_gridAt_14 : decode cX5_gridAt 14 = .ok (.aaload, 1) := by decide +kernel
theorem dX5_gridAt_15 : decode cX5_gridAt 15 = .ok (.astore_n 2, 1) := by decide +kernel
theorem dX5_gridAt_16 : decode cX5_gridAt 16 = .ok (.aload_n 2, 1) := by decide +kernel
theorem dX5_gridAt_17 : decode cX5_gridAt 17 = .ok (.ifnull 14, 3) := by decide +kernel
theorem dX5_gridAt_20 : decode cX5_gridAt 20 = .ok (.aload_n 2, 1) := by decide +kernel
theorem dX5_gridAt_21 : decode cX5_gridAt 21 = .ok (.getfield 95, 3) := by decide +kernel
theorem dX5_gridAt_24 : decode cX5_gridAt 24 = .ok (.ifCond .le 7, 3) := by decide +kernel
theorem dX5_gridAt_27 : decode cX5_gridAt 27 = .ok (.aload_n 2, 1) := by decide +kernel
theorem dX5_gridAt_28 : decode cX5_gridAt 28 = .ok (.goto 4, 3) := by decide +kernel
theorem dX5_gridAt_31 : decode cX5_gridAt 31 = .ok (.aconst_null, 1) := by decide +kernel
theorem dX5_gridAt_32 : decode cX5_gridAt 32 = .ok (.areturn, 1) := by decide +kernel
theorem dX5_putDraft_0 : decode cX5_putDraft 0 = .ok (.iload_n 1, 1) := by decide +kernel
theorem dX5_putDraft_1 : decode cX5_putDraft 1 = .ok (.invokestatic 44, 3) := by decide +kernel
theorem dX5_putDraft_4 : decode cX5_putDraft 4 = .ok (.ifCond .eq 12, 3) := by decide +kernel
theorem dX5_putDraft_7 : decode cX5_putDraft 7 = .ok (.aload_n 0, 1) := by decide +kernel
theorem dX5_putDraft_8 : decode cX5_putDraft 8 = .ok (.getfield 11, 3) := by decide +kernel
theorem dX5_putDraft_11 : decode cX5_putDraft 11 = .ok (.iload_n 1, 1) := by decide +kernel
theorem dX5_putDraft_12 : decode cX5_putDraft 12 = .ok (.aaload, 1) := by decide +kernel
theorem dX5_putDraft_13 : decode cX5_putDraft 13 = .ok (.goto 4, 3) := by decide +kernel
theorem dX5_putDraft_16 : decode cX5_putDraft 16 = .ok (.aconst_null, 1) := by decide +kernel
theorem dX5_putDraft_17 : decode cX5_putDraft 17 = .ok (.astore_n 2, 1) := by decide +kernel
theorem dX5_putDraft_18 : decode cX5_putDraft 18 = .ok (.aload_n 2, 1) := by decide +kernel
theorem dX5_putDraft_19 : decode cX5_putDraft 19 = .ok (.ifnonnull 5, 3) := by decide +kernel
theorem dX5_putDraft_22 : decode cX5_putDraft 22 = .ok (.iconst (-1), 1) := by decide +kernel
theorem dX5_putDraft_23 : decode cX5_putDraft 23 = .ok (.ireturn, 1) := by decide +kernel
theorem dX5_putDraft_24 : decode cX5_putDraft 24 = .ok (.aload_n 0, 1) := by decide +kernel
theorem dX5_putDraft_25 : decode cX5_putDraft 25 = .ok (.getfield 30, 3) := by decide +kernel
theorem dX5_putDraft_28 : decode cX5_putDraft 28 = .ok (.invokevirtual 101, 3) := by decide +kernel
theorem dX5_putDraft_31 : decode cX5_putDraft 31 = .ok (.istore_n 3, 1) := by decide +kernel
theorem dX5_putDraft_32 : decode cX5_putDraft 32 = .ok (.iload_n 3, 1) := by decide +kernel
theorem dX5_putDraft_33 : decode cX5_putDraft 33 = .ok (.sipush 128, 3) := by decide +kernel
theorem dX5_putDraft_36 : decode cX5_putDraft 36 = .ok (.if_icmp .le 6, 3) := by decide +kernel
theorem dX5_putDraft_39 : decode cX5_putDraft 39 = .ok (.bipush (-4), 2) := by decide +kernel
theorem dX5_putDraft_41 : decode cX5_putDraft 41 = .ok (.ireturn, 1) := by decide +kernel
theorem dX5_putDraft_42 : decode cX5_putDraft 42 = .ok (.aload_n 0, 1) := by decide +kernel
theorem dX5_putDraft_43 : decode cX5_putDraft 43 = .ok (.getfield 11, 3) := by decide +kernel
theorem dX5_putDraft_46 : decode cX5_putDraft 46 = .ok (.iload_n 1, 1) := by decide +kernel
theorem dX5_putDraft_47 : decode cX5_putDraft 47 = .ok (.aload_n 0, 1) := by decide +kernel
theorem dX5_putDraft_48 : decode cX5_putDraft 48 = .ok (.getfield 30, 3) := by decide +kernel
theorem dX5_putDraft_51 : decode cX5_putDraft 51 = .ok (.aastore, 1) := by decide +kernel
theorem dX5_putDraft_52 : decode cX5_putDraft 52 = .ok (.aload_n 0, 1) := by decide +kernel
theorem dX5_putDraft_53 : decode cX5_putDraft 53 = .ok (.aload_n 2, 1) := by decide +kernel
theorem dX5_putDraft_54 : decode cX5_putDraft 54 = .ok (.putfield 30, 3) := by decide +kernel
theorem dX5_putDraft_57 : decode cX5_putDraft 57 = .ok (.iload_n 3, 1) := by decide +kernel
theorem dX5_putDraft_58 : decode cX5_putDraft 58 = .ok (.ireturn, 1) := by decide +kernel
theorem dX5_putDraftNumbers_0 : decode cX5_putDraftNumbers 0 = .ok (.aload_n 0, 1) := by decide +kernel
theorem dX5_putDraftNumbers_1 : decode cX5_putDraftNumbers 1 = .ok (.getfield 37, 3) := by decide +kernel
theorem dX5_putDraftNumbers_4 : decode cX5_putDraftNumbers 4 = .ok (.astore_n 1, 1) := by decide +kernel
theorem dX5_putDraftNumbers_5 : decode cX5_putDraftNumbers 5 = .ok (.aload_n 0, 1) := by decide +kernel
theorem dX5_putDraftNumbers_6 : decode cX5_putDraftNumbers 6 = .ok (.aload_n 0, 1) := by decide +kernel
theorem dX5_putDraftNumbers_7 : decode cX5_putDraftNumbers 7 = .ok (.getfield 41, 3) := by decide +kernel
theorem dX5_putDraftNumbers_10 : decode cX5_putDraftNumbers 10 = .ok (.putfield 37, 3) := by decide +kernel
theorem dX5_putDraftNumbers_13 : decode cX5_putDraftNumbers 13 = .ok (.aload_n 0, 1) := by decide +kernel
theorem dX5_putDraftNumbers_14 : decode cX5_putDraftNumbers 14 = .ok (.aload_n 1, 1) := by decide +kernel
theorem dX5_putDraftNumbers_15 : decode cX5_putDraftNumbers 15 = .ok (.putfield 41, 3) := by decide +kernel
theorem dX5_putDraftNumbers_18 : decode cX5_putDraftNumbers 18 = .ok (.return_, 1) := by decide +kernel
theorem dX6_init_0 : decode cX6_init 0 = .ok (.aload_n 0, 1) := by decide +kernel
theorem dX6_init_1 : decode cX6_init 1 = .ok (.invokespecial 1, 3) := by decide +kernel
theorem dX6_init_4 : decode cX6_init 4 = .ok (.aload_n 0, 1) := by decide +kernel
theorem dX6_init_5 : decode cX6_init 5 = .ok (.bipush 9, 2) := by decide +kernel
theorem dX6_init_7 : decode cX6_init 7 = .ok (.newarray .boolean, 2) := by decide +kernel
theorem dX6_init_9 : decode cX6_init 9 = .ok (.putfield 7, 3) := by decide +kernel
theorem dX6_init_12 : decode cX6_init 12 = .ok (.aload_n 0, 1) := by decide +kernel
theorem dX6_init_13 : decode cX6_init 13 = .ok (.bipush 9, 2) := by decide +kernel
theorem dX6_init_15 : decode cX6_init 15 = .ok (.newarray .int, 2) := by decide +kernel
theorem dX6_init_17 : decode cX6_init 17 = .ok (.putfield 13, 3) := by decide +kernel
theorem dX6_init_20 : decode cX6_init 20 = .ok (.aload_n 0, 1) := by decide +kernel
theorem dX6_init_21 : decode cX6_init 21 = .ok (.bipush 9, 2) := by decide +kernel
theorem dX6_init_23 : decode cX6_init 23 = .ok (.newarray .int, 2) := by decide +kernel
theorem dX6_init_25 : decode cX6_init 25 = .ok (.putfield 17, 3) := by decide +kernel
theorem dX6_init_28 : decode cX6_init 28 = .ok (.aload_n 0, 1) := by decide +kernel
theorem dX6_init_29 : decode cX6_init 29 = .ok (.sipush 2304, 3) := by decide +kernel
theorem dX6_init_32 : decode cX6_init 32 = .ok (.newarray .boolean, 2) := by decide +kernel
theorem dX6_init_34 : decode cX6_init 34 = .ok (.putfield 20, 3) := by decide +kernel
theorem dX6_init_37 : decode cX6_init 37 = .ok (.aload_n 0, 1) := by decide +kernel
theorem dX6_init_38 : decode cX6_init 38 = .ok (.sipush 2304, 3) := by decide +kernel
theorem dX6_init_41 : decode cX6_init 41 = .ok (.newarray .long, 2) := by decide +kernel
theorem dX6_init_43 : decode cX6_init 43 = .ok (.putfield 23, 3) := by decide +kernel
theorem dX6_init_46 : decode cX6_init 46 = .ok (.aload_n 0, 1) := by decide +kernel
theorem dX6_init_47 : decode cX6_init 47 = .ok (.bipush 64, 2) := by decide +kernel
theorem dX6_init_49 : decode cX6_init 49 = .ok (.newarray .int, 2) := by decide +kernel
theorem dX6_init_51 : decode cX6_init 51 = .ok (.putfield 27, 3) := by decide +kernel
theorem dX6_init_54 : decode cX6_init 54 = .ok (.aload_n 0, 1) := by decide +kernel
theorem dX6_init_55 : decode cX6_init 55 = .ok (.bipush 64, 2) := by decide +kernel
theorem dX6_init_57 : decode cX6_init 57 = .ok (.newarray .long, 2) := by decide +kernel
theorem dX6_init_59 : decode cX6_init 59 = .ok (.putfield 30, 3) := by decide +kernel
theorem dX6_init_62 : decode cX6_init 62 = .ok (.aload_n 0, 1) := by decide +kernel
theorem dX6_init_63 : decode cX6_init 63 = .ok (.bipush 16, 2) := by decide +kernel
theorem dX6_init_65 : decode cX6_init 65 = .ok (.newarray .int, 2) := by decide +kernel
theorem dX6_init_67 : decode cX6_init 67 = .ok (.putfield 33, 3) := by decide +kernel
theorem dX6_init_70 : decode cX6_init 70 = .ok (.aload_n 0, 1) := by decide +kernel
theorem dX6_init_71 : decode cX6_init 71 = .ok (.sipush 3000, 3) := by decide +kernel
theorem dX6_init_74 : decode cX6_init 74 = .ok (.newarray .long, 2) := by decide +kernel
theorem dX6_init_76 : decode cX6_init 76 = .ok (.putfield 36, 3) := by decide +kernel
theorem dX6_init_79 : decode cX6_init 79 = .ok (.aload_n 0, 1) := by decide +kernel
theorem dX6_init_80 : decode cX6_init 80 = .ok (.bipush 16, 2) := by decide +kernel
theorem dX6_init_82 : decode cX6_init 82 = .ok (.newarray .long, 2) := by decide +kernel
theorem dX6_init_84 : decode cX6_init 84 = .ok (.putfield 39, 3) := by decide +kernel
theorem dX6_init_87 : decode cX6_init 87 = .ok (.aload_n 0, 1) := by decide +kernel
theorem dX6_init_88 : decode cX6_init 88 = .ok (.bipush 16, 2) := by decide +kernel
theorem dX6_init_90 : decode cX6_init 90 = .ok (.newarray .long, 2) := by decide +kernel
theorem dX6_init_92 : decode cX6_init 92 = .ok (.putfield 42, 3) := by decide +kernel
theorem dX6_init_95 : decode cX6_init 95 = .ok (.return_, 1) := by decide +kernel
theorem dX6_isNumber_0 : decode cX6_isNumber 0 = .ok (.iload_n 0, 1) := by decide +kernel
theorem dX6_isNumber_1 : decode cX6_isNumber 1 = .ok (.ifCond .lt 13, 3) := by decide +kernel
theorem dX6_isNumber_4 : decode cX6_isNumber 4 = .ok (.iload_n 0, 1) := by decide +kernel
theorem dX6_isNumber_5 : decode cX6_isNumber 5 = .ok (.bipush 8, 2) := by decide +kernel
theorem dX6_isNumber_7 : decode cX6_isNumber 7 = .ok (.if_icmp .ge 7, 3) := by decide +kernel
theorem dX6_isNumber_10 : decode cX6_isNumber 10 = .ok (.iconst 1, 1) := by decide +kernel
theorem dX6_isNumber_11 : decode cX6_isNumber 11 = .ok (.goto 4, 3) := by decide +kernel
theorem dX6_isNumber_14 : decode cX6_isNumber 14 = .ok (.iconst 0, 1) := by decide +kernel
theorem dX6_isNumber_15 : decode cX6_isNumber 15 = .ok (.ireturn, 1) := by decide +kernel
theorem dX6_isTable_0 : decode cX6_isTable 0 = .ok (.iload_n 1, 1) := by decide +kernel
theorem dX6_isTable_1 : decode cX6_isTable 1 = .ok (.invokestatic 45, 3) := by decide +kernel
theorem dX6_isTable_4 : decode cX6_isTable 4 = .ok (.ifCond .eq 16, 3) := by decide +kernel
theorem dX6_isTable_7 : decode cX6_isTable 7 = .ok (.aload_n 0, 1) := by decide +kernel
theorem dX6_isTable_8 : decode cX6_isTable 8 = .ok (.getfield 7, 3) := by decide +kernel
theorem dX6_isTable_11 : decode cX6_isTable 11 = .ok (.iload_n 1, 1) := by decide +kernel
theorem dX6_isTable_12 : decode cX6_isTable 12 = .ok (.baload, 1) := by decide +kernel
theorem dX6_isTable_13 : decode cX6_isTable 13 = .ok (.ifCond .eq 7, 3) := by decide +kernel
theorem dX6_isTable_16 : decode cX6_isTable 16 = .ok (.iconst 1, 1) := by decide +kernel
theorem dX6_isTable_17 : decode cX6_isTable 17 = .ok (.goto 4, 3) := by decide +kernel
theorem dX6_isTable_20 : decode cX6_isTable 20 = .ok (.iconst 0, 1) := by decide +kernel
theorem dX6_isTable_21 : decode cX6_isTable 21 = .ok (.ireturn, 1) := by decide +kernel
theorem dX6_cellOf_0 : decode cX6_cellOf 0 = .ok (.sipush 256, 3) := by decide +kernel
theorem dX6_cellOf_3 : decode cX6_cellOf 3 = .ok (.iload_n 0, 1) := by decide +kernel
theorem dX6_cellOf_4 : decode cX6_cellOf 4 = .ok (.imul, 1) := by decide +kernel
theorem dX6_cellOf_5 : decode cX6_cellOf 5 = .ok (.bipush 16, 2) := by decide +kernel
theorem dX6_cellOf_7 : decode cX6_cellOf 7 = .ok (.iload_n 1, 1) := by decide +kernel
theorem dX6_cellOf_8 : decode cX6_cellOf 8 = .ok (.imul, 1) := by decide +kernel
theorem dX6_cellOf_9 : decode cX6_cellOf 9 = .ok (.iadd, 1) := by decide +kernel
theorem dX6_cellOf_10 : decode cX6_cellOf 10 = .ok (.iload_n 2, 1) := by decide +kernel
theorem dX6_cellOf_11 : decode cX6_cellOf 11 = .ok (.iadd, 1) := by decide +kernel
theorem dX6_cellOf_12 : decode cX6_cellOf 12 = .ok (.ireturn, 1) := by decide +kernel
theorem dX6_isIn_0 : decode cX6_isIn 0 = .ok (.iload_n 2, 1) := by decide +kernel
theorem dX6_isIn_1 : decode cX6_isIn 1 = .ok (.ifCond .lt 31, 3) := by decide +kernel
theorem dX6_isIn_4 : decode cX6_isIn 4 = .ok (.iload_n 2, 1) := by decide +kernel
theorem dX6_isIn_5 : decode cX6_isIn 5 = .ok (.aload_n 0, 1) := by decide +kernel
theorem dX6_isIn_6 : decode cX6_isIn 6 = .ok (.getfield 13, 3) := by decide +kernel
theorem dX6_isIn_9 : decode cX6_isIn 9 = .ok (.iload_n 1, 1) := by decide +kernel
theorem dX6_isIn_10 : decode cX6_isIn 10 = .ok (.iaload, 1) := by decide +kernel
theorem dX6_isIn_11 : decode cX6_isIn 11 = .ok (.if_icmp .ge 21, 3) := by decide +kernel
theorem dX6_isIn_14 : decode cX6_isIn 14 = .ok (.iload_n 3, 1) := by decide +kernel
theorem dX6_isIn_15 : decode cX6_isIn 15 = .ok (.ifCond .lt 17, 3) := by decide +kernel
theorem dX6_isIn_18 : decode cX6_isIn 18 = .ok (.iload_n 3, 1) := by decide +kernel
theorem dX6_isIn_19 : decode cX6_isIn 19 = .ok (.aload_n 0, 1) := by decide +kernel
theorem dX6_isIn_20 : decode cX6_isIn 20 = .ok (.getfield 17, 3) := by decide +kernel
theorem dX6_isIn_23 : decode cX6_isIn 23 = .ok (.iload_n 1, 1) := by decide +kernel
theorem dX6_isIn_24 : decode cX6_isIn 24 = .ok (.iaload, 1) := by decide +kernel
theorem dX6_isIn_25 : decode cX6_isIn 25 = .ok (.if_icmp .ge 7, 3) := by decide +kernel
theorem dX6_isIn_28 : decode cX6_isIn 28 = .ok (.iconst 1, 1) := by decide +kernel
theorem dX6_isIn_29 : decode cX6_isIn 29 = .ok (.goto 4, 3) := by decide +kernel
theorem dX6_isIn_32 : decode cX6_isIn 32 = .ok (.iconst 0, 1) := by decide +kernel
theorem dX6_isIn_33 : decode cX6_isIn 33 = .ok (.ireturn, 1) := by decide +kernel
theorem dX6_begin_0 : decode cX6_begin 0 = .ok (.aload_n 0, 1) := by decide +kernel
theorem dX6_begin_1 : decode cX6_begin 1 = .ok (.getfield 13, 3) := by decide +kernel
theorem dX6_begin_4 : decode cX6_begin 4 = .ok (.bipush 8, 2) := by decide +kernel
theorem dX6_begin_6 : decode cX6_begin 6 = .ok (.iload_n 1, 1) := by decide +kernel
theorem dX6_begin_7 : decode cX6_begin 7 = .ok (.iastore, 1) := by decide +kernel
theorem dX6_begin_8 : decode cX6_begin 8 = .ok (.aload_n 0, 1) := by decide +kernel
theorem dX6_begin_9 : decode cX6_begin 9 = .ok (.getfield 17, 3) := by decide +kernel
theorem dX6_begin_12 : decode cX6_begin 12 = .ok (.bipush 8, 2) := by decide +kernel
theorem dX6_begin_14 : decode cX6_begin 14 = .ok (.iload_n 2, 1) := by decide +kernel
theorem dX6_begin_15 : decode cX6_begin 15 = .ok (.iastore, 1) := by decide +kernel
theorem dX6_begin_16 : decode cX6_begin 16 = .ok (.sipush 2048, 3) := by decide +kernel
theorem dX6_begin_19 : decode cX6_begin 19 = .ok (.istore_n 3, 1) := by decide +kernel
theorem dX6_begin_20 : decode cX6_begin 20 = .ok (.iload_n 3, 1) := by decide +kernel
theorem dX6_begin_21 : decode cX6_begin 21 = .ok (.sipush 2304, 3) := by decide +kernel
theorem dX6_begin_24 : decode cX6_begin 24 = .ok (.if_icmp .ge 23, 3) := by decide +kernel
theorem dX6_begin_27 : decode cX6_begin 27 = .ok (.aload_n 0, 1) := by decide +kernel
theorem dX6_begin_28 : decode cX6_begin 28 = .ok (.getfield 20, 3) := by decide +kernel
theorem dX6_begin_31 : decode cX6_begin 31 = .ok (.iload_n 3, 1) := by decide +kernel
theorem dX6_begin_32 : decode cX6_begin 32 = .ok (.iconst 0, 1) := by decide +kernel
theorem dX6_begin_33 : decode cX6_begin 33 = .ok (.bastore, 1) := by decide +kernel
theorem dX6_begin_34 : decode cX6_begin 34 = .ok (.aload_n 0, 1) := by decide +kernel
theorem dX6_begin_35 : decode cX6_begin 35 = .ok (.getfield 23, 3) := by decide +kernel
theorem dX6_begin_38 : decode cX6_begin 38 = .ok (.iload_n 3, 1) := by decide +kernel
theorem dX6_begin_39 : decode cX6_begin 39 = .ok (.lconst 0, 1) := by decide +kernel
theorem dX6_begin_40 : decode cX6_begin 40 = .ok (.lastore, 1) := by decide +kernel
theorem dX6_begin_41 : decode cX6_begin 41 = .ok (.iinc 3 1, 3) := by decide +kernel
theorem dX6_begin_44 : decode cX6_begin 44 = .ok (.goto (-24), 3) := by decide +kernel
theorem dX6_begin_47 : decode cX6_begin 47 = .ok (.return_, 1) := by decide +kernel
theorem dX6_many_0 : decode cX6_many 0 = .ok (.iconst 0, 1) := by decide +kernel
theorem dX6_many_1 : decode cX6_many 1 = .ok (.istore_n 2, 1) := by decide +kernel
theorem dX6_many_2 : decode cX6_many 2 = .ok (.sipush 256, 3) := by decide +kernel
theorem dX6_many_5 : decode cX6_many 5 = .ok (.iload_n 1, 1) := by decide +kernel
theorem dX6_many_6 : decode cX6_many 6 = .ok (.imul, 1) := by decide +kernel
theorem dX6_many_7 : decode cX6_many 7 = .ok (.istore_n 3, 1) := by decide +kernel
theorem dX6_many_8 : decode cX6_many 8 = .ok (.iload_n 3, 1) := by decide +kernel
theorem dX6_many_9 : decode cX6_many 9 = .ok (.sipush 256, 3) := by decide +kernel
theorem dX6_many_12 : decode cX6_many 12 = .ok (.iload_n 1, 1) := by decide +kernel
theorem dX6_many_13 : decode cX6_many 13 = .ok (.imul, 1) := by decide +kernel
theorem dX6_many_14 : decode cX6_many 14 = .ok (.sipush 256, 3) := by decide +kernel
theorem dX6_many_17 : decode cX6_many 17 = .ok (.iadd, 1) := by decide +kernel
theorem dX6_many_18 : decode cX6_many 18 = .ok (.if_icmp .ge 26, 3) := by decide +kernel
theorem dX6_many_21 : decode cX6_many 21 = .ok (.iload_n 2, 1) := by decide +kernel
theorem dX6_many_22 : decode cX6_many 22 = .ok (.aload_n 0, 1) := by decide +kernel
theorem dX6_many_23 : decode cX6_many 23 = .ok (.getfield 20, 3) := by decide +kernel
theorem dX6_many_26 : decode cX6_many 26 = .ok (.iload_n 3, 1) := by decide +kernel
theorem dX6_many_27 : decode cX6_many 27 = .ok (.baload, 1) := by decide +kernel
theorem dX6_many_28 : decode cX6_many 28 = .ok (.ifCond .eq 7, 3) := by decide +kernel
theorem dX6_many_31 : decode cX6_many 31 = .ok (.iconst 1, 1) := by decide +kernel
theorem dX6_many_32 : decode cX6_many 32 = .ok (.goto 4, 3) := by decide +kernel
theorem dX6_many_35 : decode cX6_many 35 = .ok (.iconst 0, 1) := by decide +kernel
theorem dX6_many_36 : decode cX6_many 36 = .ok (.iadd, 1) := by decide +kernel
theorem dX6_many_37 : decode cX6_many 37 = .ok (.istore_n 2, 1) := by decide +kernel
theorem dX6_many_38 : decode cX6_many 38 = .ok (.iinc 3 1, 3) := by decide +kernel
theorem dX6_many_41 : decode cX6_many 41 = .ok (.goto (-33), 3) := by decide +kernel
theorem dX6_many_44 : decode cX6_many 44 = .ok (.iload_n 2, 1) := by decide +kernel
theorem dX6_many_45 : decode cX6_many 45 = .ok (.ireturn, 1) := by decide +kernel
theorem dX6_putAt_0 : decode cX6_putAt 0 = .ok (.aload_n 0, 1) := by decide +kernel
theorem dX6_putAt_1 : decode cX6_putAt 1 = .ok (.bipush 8, 2) := by decide +kernel
theorem dX6_putAt_3 : decode cX6_putAt 3 = .ok (.invokevirtual 49, 3) := by decide +kernel
theorem dX6_putAt_6 : decode cX6_putAt 6 = .ok (.istore_n 2, 1) := by decide +kernel
theorem dX6_putAt_7 : decode cX6_putAt 7 = .ok (.iload_n 2, 1) := by decide +kernel
theorem dX6_putAt_8 : decode cX6_putAt 8 = .ok (.sipush 128, 3) := by decide +kernel
theorem dX6_putAt_11 : decode cX6_putAt 11 = .ok (.if_icmp .le 6, 3) := by decide +kernel
theorem dX6_putAt_14 : decode cX6_putAt 14 = .ok (.bipush (-4), 2) := by decide +kernel
theorem dX6_putAt_16 : decode cX6_putAt 16 = .ok (.ireturn, 1) := by decide +kernel
theorem dX6_putAt_17 : decode cX6_putAt 17 = .ok (.aload_n 0, 1) := by decide +kernel
theorem dX6_putAt_18 : decode cX6_putAt 18 = .ok (.getfield 7, 3) := by decide +kernel
theorem dX6_putAt_21 : decode cX6_putAt 21 = .ok (.iload_n 1, 1) := by decide +kernel
theorem dX6_putAt_22 : decode cX6_putAt 22 = .ok (.iconst 1, 1) := by decide +kernel
theorem dX6_putAt_23 : decode cX6_putAt 23 = .ok (.bastore, 1) := by decide +kernel
theorem dX6_putAt_24 : decode cX6_putAt 24 = .ok (.aload_n 0, 1) := by decide +kernel
theorem dX6_putAt_25 : decode cX6_putAt 25 = .ok (.getfield 13, 3) := by decide +kernel
theorem dX6_putAt_28 : decode cX6_putAt 28 = .ok (.iload_n 1, 1) := by decide +kernel
theorem dX6_putAt_29 : decode cX6_putAt 29 = .ok (.aload_n 0, 1) := by decide +kernel
theorem dX6_putAt_30 : decode cX6_putAt 30 = .ok (.getfield 13, 3) := by decide +kernel
theorem dX6_putAt_33 : decode cX6_putAt 33 = .ok (.bipush 8, 2) := by decide +kernel
theorem dX6_putAt_35 : decode cX6_putAt 35 = .ok (.iaload, 1) := by decide +kernel
theorem dX6_putAt_36 : decode cX6_putAt 36 = .ok (.iastore, 1) := by decide +kernel
theorem dX6_putAt_37 : decode cX6_putAt 37 = .ok (.aload_n 0, 1) := by decide +kernel
theorem dX6_putAt_38 : decode cX6_putAt 38 = .ok (.getfield 17, 3) := by decide +kernel
theorem dX6_putAt_41 : decode cX6_putAt 41 = .ok (.iload_n 1, 1) := by decide +kernel
theorem dX6_putAt_42 : decode cX6_putAt 42 = .ok (.aload_n 0, 1) := by decide +kernel
theorem dX6_putAt_43 : decode cX6_putAt 43 = .ok (.getfield 17, 3) := by decide +kernel
theorem dX6_putAt_46 : decode cX6_putAt 46 = .ok (.bipush 8, 2) := by decide +kernel
theorem dX6_putAt_48 : decode cX6_putAt 48 = .ok (.iaload, 1) := by decide +kernel
theorem dX6_putAt_49 : decode cX6_putAt 49 = .ok (.iastore, 1) := by decide +kernel
theorem dX6_putAt_50 : decode cX6_putAt 50 = .ok (.iconst 0, 1) := by decide +kernel
theorem dX6_putAt_51 : decode cX6_putAt 51 = .ok (.istore_n 3, 1) := by decide +kernel
theorem dX6_putAt_52 : decode cX6_putAt 52 = .ok (.iload_n 3, 1) := by decide +kernel
theorem dX6_putAt_53 : decode cX6_putAt 53 = .ok (.sipush 256, 3) := by decide +kernel
theorem dX6_putAt_56 : decode cX6_putAt 56 = .ok (.if_icmp .ge 53, 3) := by decide +kernel
theorem dX6_putAt_59 : decode cX6_putAt 59 = .ok (.aload_n 0, 1) := by decide +kernel
theorem dX6_putAt_60 : decode cX6_putAt 60 = .ok (.getfield 20, 3) := by decide +kernel
theorem dX6_putAt_63 : decode cX6_putAt 63 = .ok (.sipush 256, 3) := by decide +kernel
theorem dX6_putAt_66 : decode cX6_putAt 66 = .ok (.iload_n 1, 1) := by decide +kernel
theorem dX6_putAt_67 : decode cX6_putAt 67 = .ok (.imul, 1) := by decide +kernel
theorem dX6_putAt_68 : decode cX6_putAt 68 = .ok (.iload_n 3, 1) := by decide +kernel
theorem dX6_putAt_69 : decode cX6_putAt 69 = .ok (.iadd, 1) := by decide +kernel
theorem dX6_putAt_70 : decode cX6_putAt 70 = .ok (.aload_n 0, 1) := by decide +kernel
theorem dX6_putAt_71 : decode cX6_putAt 71 = .ok (.getfield 20, 3) := by decide +kernel
theorem dX6_putAt_74 : decode cX6_putAt 74 = .ok (.sipush 2048, 3) := by decide +kernel
theorem dX6_putAt_77 : decode cX6_putAt 77 = .ok (.iload_n 3, 1) := by decide +kernel
theorem dX6_putAt_78 : decode cX6_putAt 78 = .ok (.iadd, 1) := by decide +kernel
theorem dX6_putAt_79 : decode cX6_putAt 79 = .ok (.baload, 1) := by decide +kernel
theorem dX6_putAt_80 : decode cX6_putAt 80 = .ok (.bastore, 1) := by decide +kernel
theorem dX6_putAt_81 : decode cX6_putAt 81 = .ok (.aload_n 0, 1) := by decide +kernel
theorem dX6_putAt_82 : decode cX6_putAt 82 = .ok (.getfield 23, 3) := by decide +kernel
theorem dX6_putAt_85 : decode cX6_putAt 85 = .ok (.sipush 256, 3) := by decide +kernel
theorem dX6_putAt_88 : decode cX6_putAt 88 = .ok (.iload_n 1, 1) := by decide +kernel
theorem dX6_putAt_89 : decode cX6_putAt 89 = .ok (.imul, 1) := by decide +kernel
theorem dX6_putAt_90 : decode cX6_putAt 90 = .ok (.iload_n 3, 1) := by decide +kernel
theorem dX6_putAt_91 : decode cX6_putAt 91 = .ok (.iadd, 1) := by decide +kernel
theorem dX6_putAt_92 : decode cX6_putAt 92 = .ok (.aload_n 0, 1) := by decide +kernel
theorem dX6_putAt_93 : decode cX6_putAt 93 = .ok (.getfield 23, 3) := by decide +kernel
theorem dX6_putAt_96 : decode cX6_putAt 96 = .ok (.sipush 2048, 3) := by decide +kernel
theorem dX6_putAt_99 : decode cX6_putAt 99 = .ok (.iload_n 3, 1) := by decide +kernel
theorem dX6_putAt_100 : decode cX6_putAt 100 = .ok (.iadd, 1) := by decide +kernel
theorem dX6_putAt_101 : decode cX6_putAt 101 = .ok (.laload, 1) := by decide +kernel
theorem dX6_putAt_102 : decode cX6_putAt 102 = .ok (.lastore, 1) := by decide +kernel
theorem dX6_putAt_103 : decode cX6_putAt 103 = .ok (.iinc 3 1, 3) := by decide +kernel
theorem dX6_putAt_106 : decode cX6_putAt 106 = .ok (.goto (-54), 3) := by decide +kernel
theorem dX6_putAt_109 : decode cX6_putAt 109 = .ok (.iload_n 2, 1) := by decide +kernel
theorem dX6_putAt_110 : decode cX6_putAt 110 = .ok (.ireturn, 1) := by decide +kernel
theorem dX6_keep_0 : decode cX6_keep 0 = .ok (.aload_n 0, 1) := by decide +kernel
theorem dX6_keep_1 : decode cX6_keep 1 = .ok (.getfield 20, 3) := by decide +kernel
theorem dX6_keep_4 : decode cX6_keep 4 = .ok (.bipush 8, 2) := by decide +kernel
theorem dX6_keep_6 : decode cX6_keep 6 = .ok (.iload_n 1, 1) := by decide +kernel
theorem dX6_keep_7 : decode cX6_keep 7 = .ok (.iload_n 2, 1) := by decide +kernel
theorem dX6_keep_8 : decode cX6_keep 8 = .ok (.invokestatic 53, 3) := by decide +kernel
theorem dX6_keep_11 : decode cX6_keep 11 = .ok (.iconst 1, 1) := by decide +kernel
theorem dX6_keep_12 : decode cX6_keep 12 = .ok (.bastore, 1) := by decide +kernel
theorem dX6_keep_13 : decode cX6_keep 13 = .ok (.aload_n 0, 1) := by decide +kernel
theorem dX6_keep_14 : decode cX6_keep 14 = .ok (.getfield 23, 3) := by decide +kernel
theorem dX6_keep_17 : decode cX6_keep 17 = .ok (.bipush 8, 2) := by decide +kernel
theorem dX6_keep_19 : decode cX6_keep 19 = .ok (.iload_n 1, 1) := by decide +kernel
theorem dX6_keep_20 : decode cX6_keep 20 = .ok (.iload_n 2, 1) := by decide +kernel
theorem dX6_keep_21 : decode cX6_keep 21 = .ok (.invokestatic 53, 3) := by decide +kernel
theorem dX6_keep_24 : decode cX6_keep 24 = .ok (.lload_n 3, 1) := by decide +kernel
theorem dX6_keep_25 : decode cX6_keep 25 = .ok (.lastore, 1) := by decide +kernel
theorem dX6_keep_26 : decode cX6_keep 26 = .ok (.return_, 1) := by decide +kernel
theorem dX6_has_0 : decode cX6_has 0 = .ok (.aload_n 0, 1) := by decide +kernel
theorem dX6_has_1 : decode cX6_has 1 = .ok (.getfield 20, 3) := by decide +kernel
theorem dX6_has_4 : decode cX6_has 4 = .ok (.iload_n 1, 1) := by decide +kernel
theorem dX6_has_5 : decode cX6_has 5 = .ok (.iload_n 2, 1) := by decide +kernel
theorem dX6_has_6 : decode cX6_has 6 = .ok (.iload_n 3, 1) := by decide +kernel
theorem dX6_has_7 : decode cX6_has 7 = .ok (.invokestatic 53, 3) := by decide +kernel
theorem dX6_has_10 : decode cX6_has 10 = .ok (.baload, 1) := by decide +kernel
theorem dX6_has_11 : decode cX6_has 11 = .ok (.ireturn, 1) := by decide +kernel
theorem dX6_holds_0 : decode cX6_holds 0 = .ok (.aload_n 0, 1) := by decide +kernel
theorem dX6_holds_1 : decode cX6_holds 1 = .ok (.iload_n 1, 1) := by decide +kernel
theorem dX6_holds_2 : decode cX6_holds 2 = .ok (.iload_n 2, 1) := by decide +kernel
theorem dX6_holds_3 : decode cX6_holds 3 = .ok (.iload_n 3, 1) := by decide +kernel
theorem dX6_holds_4 : decode cX6_holds 4 = .ok (.invokevirtual 57, 3) := by decide +kernel
theorem dX6_holds_7 : decode cX6_holds 7 = .ok (.ifCond .eq 27, 3) := by decide +kernel
theorem dX6_holds_10 : decode cX6_holds 10 = .ok (.aload_n 0, 1) := by decide +kernel
theorem dX6_holds_11 : decode cX6_holds 11 = .ok (.iload_n 1, 1) := by decide +kernel
theorem dX6_holds_12 : decode cX6_holds 12 = .ok (.iload_n 2, 1) := by decide +kernel
theorem dX6_holds_13 : decode cX6_holds 13 = .ok (.iload_n 3, 1) := by decide +kernel
theorem dX6_holds_14 : decode cX6_holds 14 = .ok (.invokevirtual 61, 3) := by decide +kernel
theorem dX6_holds_17 : decode cX6_holds 17 = .ok (.ifCond .eq 17, 3) := by decide +kernel
theorem dX6_holds_20 : decode cX6_holds 20 = .ok (.aload_n 0, 1) := by decide +kernel
theorem dX6_holds_21 : decode cX6_holds 21 = .ok (.getfield 23, 3) := by decide +kernel
theorem dX6_holds_24 : decode cX6_holds 24 = .ok (.iload_n 1, 1) := by decide +kernel
theorem dX6_holds_25 : decode cX6_holds 25 = .ok (.iload_n 2, 1) := by decide +kernel
theorem dX6_holds_26 : decode cX6_holds 26 = .ok (.iload_n 3, 1) := by decide +kernel
theorem dX6_holds_27 : decode cX6_holds 27 = .ok (.invokestatic 53, 3) := by decide +kernel
theorem dX6_holds_30 : decode cX6_holds 30 = .ok (.laload, 1) := by decide +kernel
theorem dX6_holds_31 : decode cX6_holds 31 = .ok (.goto 4, 3) := by decide +kernel
theorem dX6_holds_34 : decode cX6_holds 34 = .ok (.lconst 0, 1) := by decide +kernel
theorem dX6_holds_35 : decode cX6_holds 35 = .ok (.lreturn, 1) := by decide +kernel
theorem dX6_table_0 : decode cX6_table 0 = .ok (.iload_n 1, 1) := by decide +kernel
theorem dX6_table_1 : decode cX6_table 1 = .ok (.invokestatic 45, 3) := by decide +kernel
theorem dX6_table_4 : decode cX6_table 4 = .ok (.ifCond .ne 5, 3) := by decide +kernel
theorem dX6_table_7 : decode cX6_table 7 = .ok (.iconst (-1), 1) := by decide +kernel
theorem dX6_table_8 : decode cX6_table 8 = .ok (.ireturn, 1) := by decide +kernel
theorem dX6_table_9 : decode cX6_table 9 = .ok (.iload_n 2, 1) := by decide +kernel
theorem dX6_table_10 : decode cX6_table 10 = .ok (.iconst 1, 1) := by decide +kernel
theorem dX6_table_11 : decode cX6_table 11 = .ok (.if_icmp .lt 20, 3) := by decide +kernel
theorem dX6_table_14 : decode cX6_table 14 = .ok (.iload_n 2, 1) := by decide +kernel
theorem dX6_table_15 : decode cX6_table 15 = .ok (.bipush 16, 2) := by decide +kernel
theorem dX6_table_17 : decode cX6_table 17 = .ok (.if_icmp .gt 14, 3) := by decide +kernel
theorem dX6_table_20 : decode cX6_table 20 = .ok (.iload_n 3, 1) := by decide +kernel
theorem dX6_table_21 : decode cX6_table 21 = .ok (.iconst 1, 1) := by decide +kernel
theorem dX6_table_22 : decode cX6_table 22 = .ok (.if_icmp .lt 9, 3) := by decide +kernel
theorem dX6_table_25 : decode cX6_table 25 = .ok (.iload_n 3, 1) := by decide +kernel
theorem dX6_table_26 : decode cX6_table 26 = .ok (.bipush 16, 2) := by decide +kernel
theorem dX6_table_28 : decode cX6_table 28 = .ok (.if_icmp .le 6, 3) := by decide +kernel
theorem dX6_table_31 : decode cX6_table 31 = .ok (.bipush (-2), 2) := by decide +kernel
theorem dX6_table_33 : decode cX6_table 33 = .ok (.ireturn, 1) := by decide +kernel
theorem dX6_table_34 : decode cX6_table 34 = .ok (.aload_n 0, 1) := by decide +kernel
theorem dX6_table_35 : decode cX6_table 35 = .ok (.iload_n 2, 1) := by decide +kernel
theorem dX6_table_36 : decode cX6_table 36 = .ok (.iload_n 3, 1) := by decide +kernel
theorem dX6_table_37 : decode cX6_table 37 = .ok (.invokevirtual 64, 3) := by decide +kernel
theorem dX6_table_40 : decode cX6_table 40 = .ok (.aload_n 0, 1) := by decide +kernel
theorem dX6_table_41 : decode cX6_table 41 = .ok (.iload_n 1, 1) := by decide +kernel
theorem dX6_table_42 : decode cX6_table 42 = .ok (.invokevirtual 68, 3) := by decide +kernel
theorem dX6_table_45 : decode cX6_table 45 = .ok (.pop, 1) := by decide +kernel
theorem dX6_table_46 : decode cX6_table 46 = .ok (.iconst 1, 1) := by decide +kernel
theorem dX6_table_47 : decode cX6_table 47 = .ok (.ireturn, 1) := by decide +kernel
theorem dX6_triple_0 : decode cX6_triple 0 = .ok (.iload_n 1, 1) := by decide +kernel
theorem dX6_triple_1 : decode cX6_triple 1 = .ok (.ifCond .lt 19, 3) := by decide +kernel
theorem dX6_triple_4 : decode cX6_triple 4 = .ok (.iload_n 1, 1) := by decide +kernel
theorem dX6_triple_5 : decode cX6_triple 5 = .ok (.bipush 15, 2) := by decide +kernel
theorem dX6_triple_7 : decode cX6_triple 7 = .ok (.if_icmp .gt 13, 3) := by decide +kernel
theorem dX6_triple_10 : decode cX6_triple 10 = .ok (.iload_n 2, 1) := by decide +kernel
theorem dX6_triple_11 : decode cX6_triple 11 = .ok (.ifCond .lt 9, 3) := by decide +kernel
theorem dX6_triple_14 : decode cX6_triple 14 = .ok (.iload_n 2, 1) := by decide +kernel
theorem dX6_triple_15 : decode cX6_triple 15 = .ok (.bipush 15, 2) := by decide +kernel
theorem dX6_triple_17 : decode cX6_triple 17 = .ok (.if_icmp .le 6, 3) := by decide +kernel
theorem dX6_triple_20 : decode cX6_triple 20 = .ok (.bipush (-2), 2) := by decide +kernel
theorem dX6_triple_22 : decode cX6_triple 22 = .ok (.ireturn, 1) := by decide +kernel
theorem dX6_triple_23 : decode cX6_triple 23 = .ok (.aload_n 0, 1) := by decide +kernel
theorem dX6_triple_24 : decode cX6_triple 24 = .ok (.getfield 71, 3) := by decide +kernel
theorem dX6_triple_27 : decode cX6_triple 27 = .ok (.bipush 64, 2) := by decide +kernel
theorem dX6_triple_29 : decode cX6_triple 29 = .ok (.if_icmp .ne 6, 3) := by decide +kernel
theorem dX6_triple_32 : decode cX6_triple 32 = .ok (.bipush (-4), 2) := by decide +kernel
theorem dX6_triple_34 : decode cX6_triple 34 = .ok (.ireturn, 1) := by decide +kernel
theorem dX6_triple_35 : decode cX6_triple 35 = .ok (.aload_n 0, 1) := by decide +kernel
theorem dX6_triple_36 : decode cX6_triple 36 = .ok (.getfield 27, 3) := by decide +kernel
theorem dX6_triple_39 : decode cX6_triple 39 = .ok (.aload_n 0, 1) := by decide +kernel
theorem dX6_triple_40 : decode cX6_triple 40 = .ok (.getfield 71, 3) := by decide +kernel
theorem dX6_triple_43 : decode cX6_triple 43 = .ok (.bipush 16, 2) := by decide +kernel
theorem dX6_triple_45 : decode cX6_triple 45 = .ok (.iload_n 1, 1) := by decide +kernel
theorem dX6_triple_46 : decode cX6_triple 46 = .ok (.imul, 1) := by decide +kernel
theorem dX6_triple_47 : decode cX6_triple 47 = .ok (.iload_n 2, 1) := by decide +kernel
theorem dX6_triple_48 : decode cX6_triple 48 = .ok (.iadd, 1) := by decide +kernel
theorem dX6_triple_49 : decode cX6_triple 49 = .ok (.iastore, 1) := by decide +kernel
theorem dX6_triple_50 : decode cX6_triple 50 = .ok (.aload_n 0, 1) := by decide +kernel
theorem dX6_triple_51 : decode cX6_triple 51 = .ok (.getfield 30, 3) := by decide +kernel
theorem dX6_triple_54 : decode cX6_triple 54 = .ok (.aload_n 0, 1) := by decide +kernel
theorem dX6_triple_55 : decode cX6_triple 55 = .ok (.getfield 71, 3) := by decide +kernel
theorem dX6_triple_58 : decode cX6_triple 58 = .ok (.lload_n 3, 1) := by decide +kernel
theorem dX6_triple_59 : decode cX6_triple 59 = .ok (.lastore, 1) := by decide +kernel
theorem dX6_triple_60 : decode cX6_triple 60 = .ok (.aload_n 0, 1) := by decide +kernel
theorem dX6_triple_61 : decode cX6_triple 61 = .ok (.dup, 1) := by decide +kernel
theorem dX6_triple_62 : decode cX6_triple 62 = .ok (.getfield 71, 3) := by decide +kernel
theorem dX6_triple_65 : decode cX6_triple 65 = .ok (.iconst 1, 1) := by decide +kernel
theorem dX6_triple_66 : decode cX6_triple 66 = .ok (.iadd, 1) := by decide +kernel
theorem dX6_triple_67 : decode cX6_triple 67 = .ok (.putfield 71, 3) := by decide +kernel
theorem dX6_triple_70 : decode cX6_triple 70 = .ok (.aload_n 0, 1) := by decide +kernel
theorem dX6_triple_71 : decode cX6_triple 71 = .ok (.getfield 71, 3) := by decide +kernel
theorem dX6_triple_74 : decode cX6_triple 74 = .ok (.ireturn, 1) := by decide +kernel
theorem dX6_list_0 : decode cX6_list 0 = .ok (.iload_n 1, 1) := by decide +kernel
theorem dX6_list_1 : decode cX6_list 1 = .ok (.ifCond .lt 9, 3) := by decide +kernel
theorem dX6_list_4 : decode cX6_list 4 = .ok (.iload_n 1, 1) := by decide +kernel
theorem dX6_list_5 : decode cX6_list 5 = .ok (.bipush 15, 2) := by decide +kernel
theorem dX6_list_7 : decode cX6_list 7 = .ok (.if_icmp .le 6, 3) := by decide +kernel
theorem dX6_list_10 : decode cX6_list 10 = .ok (.bipush (-2), 2) := by decide +kernel
theorem dX6_list_12 : decode cX6_list 12 = .ok (.ireturn, 1) := by decide +kernel
theorem dX6_list_13 : decode cX6_list 13 = .ok (.aload_n 0, 1) := by decide +kernel
theorem dX6_list_14 : decode cX6_list 14 = .ok (.getfield 75, 3) := by decide +kernel
theorem dX6_list_17 : decode cX6_list 17 = .ok (.bipush 16, 2) := by decide +kernel
theorem dX6_list_19 : decode cX6_list 19 = .ok (.if_icmp .ne 6, 3) := by decide +kernel
theorem dX6_list_22 : decode cX6_list 22 = .ok (.bipush (-4), 2) := by decide +kernel
theorem dX6_list_24 : decode cX6_list 24 = .ok (.ireturn, 1) := by decide +kernel
theorem dX6_list_25 : decode cX6_list 25 = .ok (.aload_n 0, 1) := by decide +kernel
theorem dX6_list_26 : decode cX6_list 26 = .ok (.getfield 33, 3) := by decide +kernel
theorem dX6_list_29 : decode cX6_list 29 = .ok (.aload_n 0, 1) := by decide +kernel
theorem dX6_list_30 : decode cX6_list 30 = .ok (.getfield 75, 3) := by decide +kernel
theorem dX6_list_33 : decode cX6_list 33 = .ok (.iload_n 1, 1) := by decide +kernel
theorem dX6_list_34 : decode cX6_list 34 = .ok (.iastore, 1) := by decide +kernel
theorem dX6_list_35 : decode cX6_list 35 = .ok (.aload_n 0, 1) := by decide +kernel
theorem dX6_list_36 : decode cX6_list 36 = .ok (.dup, 1) := by decide +kernel
theorem dX6_list_37 : decode cX6_list 37 = .ok (.getfield 75, 3) := by decide +kernel
theorem dX6_list_40 : decode cX6_list 40 = .ok (.iconst 1, 1) := by decide +kernel
theorem dX6_list_41 : decode cX6_list 41 = .ok (.iadd, 1) := by decide +kernel
theorem dX6_list_42 : decode cX6_list 42 = .ok (.putfield 75, 3) := by decide +kernel
theorem dX6_list_45 : decode cX6_list 45 = .ok (.aload_n 0, 1) := by decide +kernel
theorem dX6_list_46 : decode cX6_list 46 = .ok (.getfield 75, 3) := by decide +kernel
theorem dX6_list_49 : decode cX6_list 49 = .ok (.ireturn, 1) := by decide +kernel
theorem dX6_listed_0 : decode cX6_listed 0 = .ok (.iload_n 1, 1) := by decide +kernel
theorem dX6_listed_1 : decode cX6_listed 1 = .ok (.ifCond .lt 11, 3) := by decide +kernel
theorem dX6_listed_4 : decode cX6_listed 4 = .ok (.iload_n 1, 1) := by decide +kernel
theorem dX6_listed_5 : decode cX6_listed 5 = .ok (.aload_n 0, 1) := by decide +kernel
theorem dX6_listed_6 : decode cX6_listed 6 = .ok (.getfield 75, 3) := by decide +kernel
theorem dX6_listed_9 : decode cX6_listed 9 = .ok (.if_icmp .lt 8, 3) := by decide +kernel
theorem dX6_listed_12 : decode cX6_listed 12 = .ok (.bipush (-2), 2) := by decide +kernel
theorem dX6_listed_14 : decode cX6_listed 14 = .ok (.goto 9, 3) := by decide +kernel
theorem dX6_listed_17 : decode cX6_listed 17 = .ok (.aload_n 0, 1) := by decide +kernel
theorem dX6_listed_18 : decode cX6_listed 18 = .ok (.getfield 33, 3) := by decide +kernel
theorem dX6_listed_21 : decode cX6_listed 21 = .ok (.iload_n 1, 1) := by decide +kernel
theorem dX6_listed_22 : decode cX6_listed 22 = .ok (.iaload, 1) := by decide +kernel
theorem dX6_listed_23 : decode cX6_listed 23 = .ok (.ireturn, 1) := by decide +kernel
theorem dX6_take_0 : decode cX6_take 0 = .ok (.aload_n 0, 1) := by decide +kernel
theorem dX6_take_1 : decode cX6_take 1 = .ok (.aload_n 0, 1) := by decide +kernel
theorem dX6_take_2 : decode cX6_take 2 = .ok (.getfield 13, 3) := by decide +kernel
theorem dX6_take_5 : decode cX6_take 5 = .ok (.iload_n 1, 1) := by decide +kernel
theorem dX6_take_6 : decode cX6_take 6 = .ok (.iaload, 1) := by decide +kernel
theorem dX6_take_7 : decode cX6_take 7 = .ok (.aload_n 0, 1) := by decide +kernel
theorem dX6_take_8 : decode cX6_take 8 = .ok (.getfield 17, 3) := by decide +kernel
theorem dX6_take_11 : decode cX6_take 11 = .ok (.iload_n 1, 1) := by decide +kernel
theorem dX6_take_12 : decode cX6_take 12 = .ok (.iaload, 1) := by decide +kernel
theorem dX6_take_13 : decode cX6_take 13 = .ok (.invokevirtual 64, 3) := by decide +kernel
theorem dX6_take_16 : decode cX6_take 16 = .ok (.iconst 0, 1) := by decide +kernel
theorem dX6_take_17 : decode cX6_take 17 = .ok (.istore_n 2, 1) := by decide +kernel
theorem dX6_take_18 : decode cX6_take 18 = .ok (.iload_n 2, 1) := by decide +kernel
theorem dX6_take_19 : decode cX6_take 19 = .ok (.sipush 256, 3) := by decide +kernel
theorem dX6_take_22 : decode cX6_take 22 = .ok (.if_icmp .ge 53, 3) := by decide +kernel
theorem dX6_take_25 : decode cX6_take 25 = .ok (.aload_n 0, 1) := by decide +kernel
theorem dX6_take_26 : decode cX6_take 26 = .ok (.getfield 20, 3) := by decide +kernel
theorem dX6_take_29 : decode cX6_take 29 = .ok (.sipush 2048, 3) := by decide +kernel
theorem dX6_take_32 : decode cX6_take 32 = .ok (.iload_n 2, 1) := by decide +kernel
theorem dX6_take_33 : decode cX6_take 33 = .ok (.iadd, 1) := by decide +kernel
theorem dX6_take_34 : decode cX6_take 34 = .ok (.aload_n 0, 1) := by decide +kernel
theorem dX6_take_35 : decode cX6_take 35 = .ok (.getfield 20, 3) := by decide +kernel
theorem dX6_take_38 : decode cX6_take 38 = .ok (.sipush 256, 3) := by decide +kernel
theorem dX6_take_41 : decode cX6_take 41 = .ok (.iload_n 1, 1) := by decide +kernel
theorem dX6_take_42 : decode cX6_take 42 = .ok (.imul, 1) := by decide +kernel
theorem dX6_take_43 : decode cX6_take 43 = .ok (.iload_n 2, 1) := by decide +kernel
theorem dX6_take_44 : decode cX6_take 44 = .ok (.iadd, 1) := by decide +kernel
theorem dX6_take_45 : decode cX6_take 45 = .ok (.baload, 1) := by decide +kernel
theorem dX6_take_46 : decode cX6_take 46 = .ok (.bastore, 1) := by decide +kernel
theorem dX6_take_47 : decode cX6_take 47 = .ok (.aload_n 0, 1) := by decide +kernel
theorem dX6_take_48 : decode cX6_take 48 = .ok (.getfield 23, 3) := by decide +kernel
theorem dX6_take_51 : decode cX6_take 51 = .ok (.sipush 2048, 3) := by decide +kernel
theorem dX6_take_54 : decode cX6_take 54 = .ok (.iload_n 2, 1) := by decide +kernel
theorem dX6_take_55 : decode cX6_take 55 = .ok (.iadd, 1) := by decide +kernel
theorem dX6_take_56 : decode cX6_take 56 = .ok (.aload_n 0, 1) := by decide +kernel
theorem dX6_take_57 : decode cX6_take 57 = .ok (.getfield 23, 3) := by decide +kernel
theorem dX6_take_60 : decode cX6_take 60 = .ok (.sipush 256, 3) := by decide +kernel
theorem dX6_take_63 : decode cX6_take 63 = .ok (.iload_n 1, 1) := by decide +kernel
theorem dX6_take_64 : decode cX6_take 64 = .ok (.imul, 1) := by decide +kernel
theorem dX6_take_65 : decode cX6_take 65 = .ok (.iload_n 2, 1) := by decide +kernel
theorem dX6_take_66 : decode cX6_take 66 = .ok (.iadd, 1) := by decide +kernel
theorem dX6_take_67 : decode cX6_take 67 = .ok (.laload, 1) := by decide +kernel
theorem dX6_take_68 : decode cX6_take 68 = .ok (.lastore, 1) := by decide +kernel
theorem dX6_take_69 : decode cX6_take 69 = .ok (.iinc 2 1, 3) := by decide +kernel
theorem dX6_take_72 : decode cX6_take 72 = .ok (.goto (-54), 3) := by decide +kernel
theorem dX6_take_75 : decode cX6_take 75 = .ok (.return_, 1) := by decide +kernel
theorem dX6_join_0 : decode cX6_join 0 = .ok (.aload_n 0, 1) := by decide +kernel
theorem dX6_join_1 : decode cX6_join 1 = .ok (.iload_n 1, 1) := by decide +kernel
theorem dX6_join_2 : decode cX6_join 2 = .ok (.invokevirtual 78, 3) := by decide +kernel
theorem dX6_join_5 : decode cX6_join 5 = .ok (.ifCond .ne 5, 3) := by decide +kernel
theorem dX6_join_8 : decode cX6_join 8 = .ok (.iconst (-1), 1) := by decide +kernel
theorem dX6_join_9 : decode cX6_join 9 = .ok (.ireturn, 1) := by decide +kernel
theorem dX6_join_10 : decode cX6_join 10 = .ok (.aload_n 0, 1) := by decide +kernel
theorem dX6_join_11 : decode cX6_join 11 = .ok (.getfield 71, 3) := by decide +kernel
theorem dX6_join_14 : decode cX6_join 14 = .ok (.istore_n 2, 1) := by decide +kernel
theorem dX6_join_15 : decode cX6_join 15 = .ok (.aload_n 0, 1) := by decide +kernel
theorem dX6_join_16 : decode cX6_join 16 = .ok (.iconst 0, 1) := by decide +kernel
theorem dX6_join_17 : decode cX6_join 17 = .ok (.putfield 71, 3) := by decide +kernel
theorem dX6_join_20 : decode cX6_join 20 = .ok (.aload_n 0, 1) := by decide +kernel
theorem dX6_join_21 : decode cX6_join 21 = .ok (.iload_n 1, 1) := by decide +kernel
theorem dX6_join_22 : decode cX6_join 22 = .ok (.invokevirtual 81, 3) := by decide +kernel
theorem dX6_join_25 : decode cX6_join 25 = .ok (.iconst 0, 1) := by decide +kernel
theorem dX6_join_26 : decode cX6_join 26 = .ok (.istore_n 3, 1) := by decide +kernel
theorem dX6_join_27 : decode cX6_join 27 = .ok (.iload_n 3, 1) := by decide +kernel
theorem dX6_join_28 : decode cX6_join 28 = .ok (.iload_n 2, 1) := by decide +kernel
theorem dX6_join_29 : decode cX6_join 29 = .ok (.if_icmp .ge 79, 3) := by decide +kernel
theorem dX6_join_32 : decode cX6_join 32 = .ok (.aload_n 0, 1) := by decide +kernel
theorem dX6_join_33 : decode cX6_join 33 = .ok (.iload_n 1, 1) := by decide +kernel
theorem dX6_join_34 : decode cX6_join 34 = .ok (.aload_n 0, 1) := by decide +kernel
theorem dX6_join_35 : decode cX6_join 35 = .ok (.getfield 27, 3) := by decide +kernel
theorem dX6_join_38 : decode cX6_join 38 = .ok (.iload_n 3, 1) := by decide +kernel
theorem dX6_join_39 : decode cX6_join 39 = .ok (.iaload, 1) := by decide +kernel
theorem dX6_join_40 : decode cX6_join 40 = .ok (.bipush 16, 2) := by decide +kernel
theorem dX6_join_42 : decode cX6_join 42 = .ok (.idiv, 1) := by decide +kernel
theorem dX6_join_43 : decode cX6_join 43 = .ok (.aload_n 0, 1) := by decide +kernel
theorem dX6_join_44 : decode cX6_join 44 = .ok (.getfield 27, 3) := by decide +kernel
theorem dX6_join_47 : decode cX6_join 47 = .ok (.iload_n 3, 1) := by decide +kernel
theorem dX6_join_48 : decode cX6_join 48 = .ok (.iaload, 1) := by decide +kernel
theorem dX6_join_49 : decode cX6_join 49 = .ok (.bipush 16, 2) := by decide +kernel
theorem dX6_join_51 : decode cX6_join 51 = .ok (.irem, 1) := by decide +kernel
theorem dX6_join_52 : decode cX6_join 52 = .ok (.invokevirtual 57, 3) := by decide +kernel
theorem dX6_join_55 : decode cX6_join 55 = .ok (.ifCond .ne 6, 3) := by decide +kernel
theorem dX6_join_58 : decode cX6_join 58 = .ok (.bipush (-3), 2) := by decide +kernel
theorem dX6_join_60 : decode cX6_join 60 = .ok (.ireturn, 1) := by decide +kernel
theorem dX6_join_61 : decode cX6_join 61 = .ok (.sipush 2048, 3) := by decide +kernel
theorem dX6_join_64 : decode cX6_join 64 = .ok (.aload_n 0, 1) := by decide +kernel
theorem dX6_join_65 : decode cX6_join 65 = .ok (.getfield 27, 3) := by decide +kernel
theorem dX6_join_68 : decode cX6_join 68 = .ok (.iload_n 3, 1) := by decide +kernel
theorem dX6_join_69 : decode cX6_join 69 = .ok (.iaload, 1) := by decide +kernel
theorem dX6_join_70 : decode cX6_join 70 = .ok (.iadd, 1) := by decide +kernel
theorem dX6_join_71 : decode cX6_join 71 = .ok (.istore 4, 2) := by decide +kernel
theorem dX6_join_73 : decode cX6_join 73 = .ok (.aload_n 0, 1) := by decide +kernel
theorem dX6_join_74 : decode cX6_join 74 = .ok (.getfield 20, 3) := by decide +kernel
theorem dX6_join_77 : decode cX6_join 77 = .ok (.iload 4, 2) := by decide +kernel
theorem dX6_join_79 : decode cX6_join 79 = .ok (.iconst 1, 1) := by decide +kernel
theorem dX6_join_80 : decode cX6_join 80 = .ok (.bastore, 1) := by decide +kernel
theorem dX6_join_81 : decode cX6_join 81 = .ok (.aload_n 0, 1) := by decide +kernel
theorem dX6_join_82 : decode cX6_join 82 = .ok (.getfield 23, 3) := by decide +kernel
theorem dX6_join_85 : decode cX6_join 85 = .ok (.iload 4, 2) := by decide +kernel
theorem dX6_join_87 : decode cX6_join 87 = .ok (.aload_n 0, 1) := by decide +kernel
theorem dX6_join_88 : decode cX6_join 88 = .ok (.getfield 23, 3) := by decide +kernel
theorem dX6_join_91 : decode cX6_join 91 = .ok (.iload 4, 2) := by decide +kernel
theorem dX6_join_93 : decode cX6_join 93 = .ok (.laload, 1) := by decide +kernel
theorem dX6_join_94 : decode cX6_join 94 = .ok (.aload_n 0, 1) := by decide +kernel
theorem dX6_join_95 : decode cX6_join 95 = .ok (.getfield 30, 3) := by decide +kernel
theorem dX6_join_98 : decode cX6_join 98 = .ok (.iload_n 3, 1) := by decide +kernel
theorem dX6_join_99 : decode cX6_join 99 = .ok (.laload, 1) := by decide +kernel
theorem dX6_join_100 : decode cX6_join 100 = .ok (.ladd, 1) := by decide +kernel
theorem dX6_join_101 : decode cX6_join 101 = .ok (.lastore, 1) := by decide +kernel
theorem dX6_join_102 : decode cX6_join 102 = .ok (.iinc 3 1, 3) := by decide +kernel
theorem dX6_join_105 : decode cX6_join 105 = .ok (.goto (-78), 3) := by decide +kernel
theorem dX6_join_108 : decode cX6_join 108 = .ok (.aload_n 0, 1) := by decide +kernel
theorem dX6_join_109 : decode cX6_join 109 = .ok (.iload_n 1, 1) := by decide +kernel
theorem dX6_join_110 : decode cX6_join 110 = .ok (.invokevirtual 68, 3) := by decide +kernel
theorem dX6_join_113 : decode cX6_join 113 = .ok (.ireturn, 1) := by decide +kernel
theorem dX6_count_0 : decode cX6_count 0 = .ok (.aload_n 0, 1) := by decide +kernel
theorem dX6_count_1 : decode cX6_count 1 = .ok (.iload_n 1, 1) := by decide +kernel
theorem dX6_count_2 : decode cX6_count 2 = .ok (.invokevirtual 78, 3) := by decide +kernel
theorem dX6_count_5 : decode cX6_count 5 = .ok (.ifCond .ne 5, 3) := by decide +kernel
theorem dX6_count_8 : decode cX6_count 8 = .ok (.iconst (-1), 1) := by decide +kernel
theorem dX6_count_9 : decode cX6_count 9 = .ok (.ireturn, 1) := by decide +kernel
theorem dX6_count_10 : decode cX6_count 10 = .ok (.iload_n 2, 1) := by decide +kernel
theorem dX6_count_11 : decode cX6_count 11 = .ok (.tableswitch 128 0 5 #[37, 44, 51, 57, 118, 123], 37) := by decide +kernel
theorem dX6_count_48 : decode cX6_count 48 = .ok (.aload_n 0, 1) := by decide +kernel
theorem dX6_count_49 : decode cX6_count 49 = .ok (.getfield 13, 3) := by decide +kernel
theorem dX6_count_52 : decode cX6_count 52 = .ok (.iload_n 1, 1) := by decide +kernel
theorem dX6_count_53 : decode cX6_count 53 = .ok (.iaload, 1) := by decide +kernel
theorem dX6_count_54 : decode cX6_count 54 = .ok (.ireturn, 1) := by decide +kernel
theorem dX6_count_55 : decode cX6_count 55 = .ok (.aload_n 0, 1) := by decide +kernel
theorem dX6_count_56 : decode cX6_count 56 = .ok (.getfield 17, 3) := by decide +kernel
theorem dX6_count_59 : decode cX6_count 59 = .ok (.iload_n 1, 1) := by decide +kernel
theorem dX6_count_60 : decode cX6_count 60 = .ok (.iaload, 1) := by decide +kernel
theorem dX6_count_61 : decode cX6_count 61 = .ok (.ireturn, 1) := by decide +kernel
theorem dX6_count_62 : decode cX6_count 62 = .ok (.aload_n 0, 1) := by decide +kernel
theorem dX6_count_63 : decode cX6_count 63 = .ok (.iload_n 1, 1) := by decide +kernel
theorem dX6_count_64 : decode cX6_count 64 = .ok (.invokevirtual 49, 3) := by decide +kernel
theorem dX6_count_67 : decode cX6_count 67 = .ok (.ireturn, 1) := by decide +kernel
theorem dX6_count_68 : decode cX6_count 68 = .ok (.iconst 0, 1) := by decide +kernel
theorem dX6_count_69 : decode cX6_count 69 = .ok (.istore_n 3, 1) := by decide +kernel
theorem dX6_count_70 : decode cX6_count 70 = .ok (.sipush 256, 3) := by decide +kernel
theorem dX6_count_73 : decode cX6_count 73 = .ok (.iload_n 1, 1) := by decide +kernel
theorem dX6_count_74 : decode cX6_count 74 = .ok (.imul, 1) := by decide +kernel
theorem dX6_count_75 : decode cX6_count 75 = .ok (.istore 4, 2) := by decide +kernel
theorem dX6_count_77 : decode cX6_count 77 = .ok (.iload 4, 2) := by decide +kernel
theorem dX6_count_79 : decode cX6_count 79 = .ok (.sipush 256, 3) := by decide +kernel
theorem dX6_count_82 : decode cX6_count 82 = .ok (.iload_n 1, 1) := by decide +kernel
theorem dX6_count_83 : decode cX6_count 83 = .ok (.imul, 1) := by decide +kernel
theorem dX6_count_84 : decode cX6_count 84 = .ok (.sipush 256, 3) := by decide +kernel
theorem dX6_count_87 : decode cX6_count 87 = .ok (.iadd, 1) := by decide +kernel
theorem dX6_count_88 : decode cX6_count 88 = .ok (.if_icmp .ge 39, 3) := by decide +kernel
theorem dX6_count_91 : decode cX6_count 91 = .ok (.iload_n 3, 1) := by decide +kernel
theorem dX6_count_92 : decode cX6_count 92 = .ok (.aload_n 0, 1) := by decide +kernel
theorem dX6_count_93 : decode cX6_count 93 = .ok (.getfield 20, 3) := by decide +kernel
theorem dX6_count_96 : decode cX6_count 96 = .ok (.iload 4, 2) := by decide +kernel
theorem dX6_count_98 : decode cX6_count 98 = .ok (.baload, 1) := by decide +kernel
theorem dX6_count_99 : decode cX6_count 99 = .ok (.ifCond .eq 19, 3) := by decide +kernel
theorem dX6_count_102 : decode cX6_count 102 = .ok (.aload_n 0, 1) := by decide +kernel
theorem dX6_count_103 : decode cX6_count 103 = .ok (.getfield 23, 3) := by decide +kernel
theorem dX6_count_106 : decode cX6_count 106 = .ok (.iload 4, 2) := by decide +kernel
theorem dX6_count_108 : decode cX6_count 108 = .ok (.laload, 1) := by decide +kernel
theorem dX6_count_109 : decode cX6_count 109 = .ok (.lconst 0, 1) := by decide +kernel
theorem dX6_count_110 : decode cX6_count 110 = .ok (.lcmp, 1) := by decide +kernel
theorem dX6_count_111 : decode cX6_count 111 = .ok (.ifCond .ne 7, 3) := by decide +kernel
theorem dX6_count_114 : decode cX6_count 114 = .ok (.iconst 1, 1) := by decide +kernel
theorem dX6_count_115 : decode cX6_count 115 = .ok (.goto 4, 3) := by decide +kernel
theorem dX6_count_118 : decode cX6_count 118 = .ok (.iconst 0, 1) := by decide +kernel
theorem dX6_count_119 : decode cX6_count 119 = .ok (.iadd, 1) := by decide +kernel
theorem dX6_count_120 : decode cX6_count 120 = .ok (.istore_n 3, 1) := by decide +kernel
theorem dX6_count_121 : decode cX6_count 121 = .ok (.iinc 4 1, 3) := by decide +kernel
theorem dX6_count_124 : decode cX6_count 124 = .ok (.goto (-47), 3) := by decide +kernel
theorem dX6_count_127 : decode cX6_count 127 = .ok (.iload_n 3, 1) := by decide +kernel
theorem dX6_count_128 : decode cX6_count 128 = .ok (.ireturn, 1) := by decide +kernel
theorem dX6_count_129 : decode cX6_count 129 = .ok (.aload_n 0, 1) := by decide +kernel
theorem dX6_count_130 : decode cX6_count 130 = .ok (.getfield 71, 3) := by decide +kernel
theorem dX6_count_133 : decode cX6_count 133 = .ok (.ireturn, 1) := by decide +kernel
theorem dX6_count_134 : decode cX6_count 134 = .ok (.aload_n 0, 1) := by decide +kernel
theorem dX6_count_135 : decode cX6_count 135 = .ok (.getfield 75, 3) := by decide +kernel
theorem dX6_count_138 : decode cX6_count 138 = .ok (.ireturn, 1) := by decide +kernel
theorem dX6_count_139 : decode cX6_count 139 = .ok (.bipush (-2), 2) := by decide +kernel
theorem dX6_count_141 : decode cX6_count 141 = .ok (.ireturn, 1) := by decide +kernel
theorem dX6_at_0 : decode cX6_at 0 = .ok (.aload_n 0, 1) := by decide +kernel
theorem dX6_at_1 : decode cX6_at 1 = .ok (.iload_n 1, 1) := by decide +kernel
theorem dX6_at_2 : decode cX6_at 2 = .ok (.invokevirtual 78, 3) := by decide +kernel
theorem dX6_at_5 : decode cX6_at 5 = .ok (.ifCond .eq 13, 3) := by decide +kernel
theorem dX6_at_8 : decode cX6_at 8 = .ok (.aload_n 0, 1) := by decide +kernel
theorem dX6_at_9 : decode cX6_at 9 = .ok (.iload_n 1, 1) := by decide +kernel
theorem dX6_at_10 : decode cX6_at 10 = .ok (.iload_n 2, 1) := by decide +kernel
theorem dX6_at_11 : decode cX6_at 11 = .ok (.iload_n 3, 1) := by decide +kernel
theorem dX6_at_12 : decode cX6_at 12 = .ok (.invokevirtual 85, 3) := by decide +kernel
theorem dX6_at_15 : decode cX6_at 15 = .ok (.goto 4, 3) := by decide +kernel
theorem dX6_at_18 : decode cX6_at 18 = .ok (.lconst 0, 1) := by decide +kernel
theorem dX6_at_19 : decode cX6_at 19 = .ok (.lreturn, 1) := by decide +kernel
theorem dX6_kept_0 : decode cX6_kept 0 = .ok (.aload_n 0, 1) := by decide +kernel
theorem dX6_kept_1 : decode cX6_kept 1 = .ok (.iload_n 1, 1) := by decide +kernel
theorem dX6_kept_2 : decode cX6_kept 2 = .ok (.invokevirtual 78, 3) := by decide +kernel
theorem dX6_kept_5 : decode cX6_kept 5 = .ok (.ifCond .ne 5, 3) := by decide +kernel
theorem dX6_kept_8 : decode cX6_kept 8 = .ok (.iconst (-1), 1) := by decide +kernel
theorem dX6_kept_9 : decode cX6_kept 9 = .ok (.ireturn, 1) := by decide +kernel
theorem dX6_kept_10 : decode cX6_kept 10 = .ok (.aload_n 0, 1) := by decide +kernel
theorem dX6_kept_11 : decode cX6_kept 11 = .ok (.iload_n 1, 1) := by decide +kernel
theorem dX6_kept_12 : decode cX6_kept 12 = .ok (.iload_n 2, 1) := by decide +kernel
theorem dX6_kept_13 : decode cX6_kept 13 = .ok (.iload_n 3, 1) := by decide +kernel
theorem dX6_kept_14 : decode cX6_kept 14 = .ok (.invokevirtual 57, 3) := by decide +kernel
theorem dX6_kept_17 : decode cX6_kept 17 = .ok (.ifCond .ne 6, 3) := by decide +kernel
theorem dX6_kept_20 : decode cX6_kept 20 = .ok (.bipush (-2), 2) := by decide +kernel
theorem dX6_kept_22 : decode cX6_kept 22 = .ok (.ireturn, 1) := by decide +kernel
theorem dX6_kept_23 : decode cX6_kept 23 = .ok (.aload_n 0, 1) := by decide +kernel
theorem dX6_kept_24 : decode cX6_kept 24 = .ok (.iload_n 1, 1) := by decide +kernel
theorem dX6_kept_25 : decode cX6_kept 25 = .ok (.iload_n 2, 1) := by decide +kernel
theorem dX6_kept_26 : decode cX6_kept 26 = .ok (.iload_n 3, 1) := by decide +kernel
theorem dX6_kept_27 : decode cX6_kept 27 = .ok (.invokevirtual 61, 3) := by decide +kernel
theorem dX6_kept_30 : decode cX6_kept 30 = .ok (.ifCond .ne 6, 3) := by decide +kernel
theorem dX6_kept_33 : decode cX6_kept 33 = .ok (.bipush (-3), 2) := by decide +kernel
theorem dX6_kept_35 : decode cX6_kept 35 = .ok (.ireturn, 1) := by decide +kernel
theorem dX6_kept_36 : decode cX6_kept 36 = .ok (.iconst 0, 1) := by decide +kernel
theorem dX6_kept_37 : decode cX6_kept 37 = .ok (.istore 4, 2) := by decide +kernel
theorem dX6_kept_39 : decode cX6_kept 39 = .ok (.sipush 256, 3) := by decide +kernel
theorem dX6_kept_42 : decode cX6_kept 42 = .ok (.iload_n 1, 1) := by decide +kernel
theorem dX6_kept_43 : decode cX6_kept 43 = .ok (.imul, 1) := by decide +kernel
theorem dX6_kept_44 : decode cX6_kept 44 = .ok (.istore 5, 2) := by decide +kernel
theorem dX6_kept_46 : decode cX6_kept 46 = .ok (.iload 5, 2) := by decide +kernel
theorem dX6_kept_48 : decode cX6_kept 48 = .ok (.iload_n 1, 1) := by decide +kernel
theorem dX6_kept_49 : decode cX6_kept 49 = .ok (.iload_n 2, 1) := by decide +kernel
theorem dX6_kept_50 : decode cX6_kept 50 = .ok (.iload_n 3, 1) := by decide +kernel
theorem dX6_kept_51 : decode cX6_kept 51 = .ok (.invokestatic 53, 3) := by decide +kernel
theorem dX6_kept_54 : decode cX6_kept 54 = .ok (.if_icmp .ge 29, 3) := by decide +kernel
theorem dX6_kept_57 : decode cX6_kept 57 = .ok (.iload 4, 2) := by decide +kernel
theorem dX6_kept_59 : decode cX6_kept 59 = .ok (.aload_n 0, 1) := by decide +kernel
theorem dX6_kept_60 : decode cX6_kept 60 = .ok (.getfield 20, 3) := by decide +kernel
theorem dX6_kept_63 : decode cX6_kept 63 = .ok (.iload 5, 2) := by decide +kernel
theorem dX6_kept_65 : decode cX6_kept 65 = .ok (.baload, 1) := by decide +kernel
theorem dX6_kept_66 : decode cX6_kept 66 = .ok (.ifCond .eq 7, 3) := by decide +kernel
theorem dX6_kept_69 : decode cX6_kept 69 = .ok (.iconst 1, 1) := by decide +kernel
theorem dX6_kept_70 : decode cX6_kept 70 = .ok (.goto 4, 3) := by decide +kernel
theorem dX6_kept_73 : decode cX6_kept 73 = .ok (.iconst 0, 1) := by decide +kernel
theorem dX6_kept_74 : decode cX6_kept 74 = .ok (.iadd, 1) := by decide +kernel
theorem dX6_kept_75 : decode cX6_kept 75 = .ok (.istore 4, 2) := by decide +kernel
theorem dX6_kept_77 : decode cX6_kept 77 = .ok (.iinc 5 1, 3) := by decide +kernel
theorem dX6_kept_80 : decode cX6_kept 80 = .ok (.goto (-34), 3) := by decide +kernel
theorem dX6_kept_83 : decode cX6_kept 83 = .ok (.iload 4, 2) := by decide +kernel
theorem dX6_kept_85 : decode cX6_kept 85 = .ok (.ireturn, 1) := by decide +kernel
theorem dX6_place_0 : decode cX6_place 0 = .ok (.aload_n 0, 1) := by decide +kernel
theorem dX6_place_1 : decode cX6_place 1 = .ok (.iload_n 1, 1) := by decide +kernel
theorem dX6_place_2 : decode cX6_place 2 = .ok (.invokevirtual 78, 3) := by decide +kernel
theorem dX6_place_5 : decode cX6_place 5 = .ok (.ifCond .ne 5, 3) := by decide +kernel
theorem dX6_place_8 : decode cX6_place 8 = .ok (.iconst (-1), 1) := by decide +kernel
theorem dX6_place_9 : decode cX6_place 9 = .ok (.ireturn, 1) := by decide +kernel
theorem dX6_place_10 : decode cX6_place 10 = .ok (.iload_n 2, 1) := by decide +kernel
theorem dX6_place_11 : decode cX6_place 11 = .ok (.istore_n 3, 1) := by decide +kernel
theorem dX6_place_12 : decode cX6_place 12 = .ok (.iconst 0, 1) := by decide +kernel
theorem dX6_place_13 : decode cX6_place 13 = .ok (.istore 4, 2) := by decide +kernel
theorem dX6_place_15 : decode cX6_place 15 = .ok (.iload 4, 2) := by decide +kernel
theorem dX6_place_17 : decode cX6_place 17 = .ok (.sipush 256, 3) := by decide +kernel
theorem dX6_place_20 : decode cX6_place 20 = .ok (.if_icmp .ge 39, 3) := by decide +kernel
theorem dX6_place_23 : decode cX6_place 23 = .ok (.iload_n 2, 1) := by decide +kernel
theorem dX6_place_24 : decode cX6_place 24 = .ok (.ifCond .lt 35, 3) := by decide +kernel
theorem dX6_place_27 : decode cX6_place 27 = .ok (.aload_n 0, 1) := by decide +kernel
theorem dX6_place_28 : decode cX6_place 28 = .ok (.getfield 20, 3) := by decide +kernel
theorem dX6_place_31 : decode cX6_place 31 = .ok (.sipush 256, 3) := by decide +kernel
theorem dX6_place_34 : decode cX6_place 34 = .ok (.iload_n 1, 1) := by decide +kernel
theorem dX6_place_35 : decode cX6_place 35 = .ok (.imul, 1) := by decide +kernel
theorem dX6_place_36 : decode cX6_place 36 = .ok (.iload 4, 2) := by decide +kernel
theorem dX6_place_38 : decode cX6_place 38 = .ok (.iadd, 1) := by decide +kernel
theorem dX6_place_39 : decode cX6_place 39 = .ok (.baload, 1) := by decide +kernel
theorem dX6_place_40 : decode cX6_place 40 = .ok (.ifCond .eq 13, 3) := by decide +kernel
theorem dX6_place_43 : decode cX6_place 43 = .ok (.iload_n 3, 1) := by decide +kernel
theorem dX6_place_44 : decode cX6_place 44 = .ok (.ifCond .ne 6, 3) := by decide +kernel
theorem dX6_place_47 : decode cX6_place 47 = .ok (.iload 4, 2) := by decide +kernel
theorem dX6_place_49 : decode cX6_place 49 = .ok (.ireturn, 1) := by decide +kernel
theorem dX6_place_50 : decode cX6_place 50 = .ok (.iinc 3 (-1), 3) := by decide +kernel
theorem dX6_place_53 : decode cX6_place 53 = .ok (.iinc 4 1, 3) := by decide +kernel
theorem dX6_place_56 : decode cX6_place 56 = .ok (.goto (-41), 3) := by decide +kernel
theorem dX6_place_59 : decode cX6_place 59 = .ok (.bipush (-2), 2) := by decide +kernel
theorem dX6_place_61 : decode cX6_place 61 = .ok (.ireturn, 1) := by decide +kernel
theorem dX6_set_0 : decode cX6_set 0 = .ok (.aload_n 0, 1) := by decide +kernel
theorem dX6_set_1 : decode cX6_set 1 = .ok (.iload_n 1, 1) := by decide +kernel
theorem dX6_set_2 : decode cX6_set 2 = .ok (.invokevirtual 78, 3) := by decide +kernel
theorem dX6_set_5 : decode cX6_set 5 = .ok (.ifCond .ne 5, 3) := by decide +kernel
theorem dX6_set_8 : decode cX6_set 8 = .ok (.iconst (-1), 1) := by decide +kernel
theorem dX6_set_9 : decode cX6_set 9 = .ok (.ireturn, 1) := by decide +kernel
theorem dX6_set_10 : decode cX6_set 10 = .ok (.aload_n 0, 1) := by decide +kernel
theorem dX6_set_11 : decode cX6_set 11 = .ok (.iload_n 1, 1) := by decide +kernel
theorem dX6_set_12 : decode cX6_set 12 = .ok (.iload_n 2, 1) := by decide +kernel
theorem dX6_set_13 : decode cX6_set 13 = .ok (.iload_n 3, 1) := by decide +kernel
theorem dX6_set_14 : decode cX6_set 14 = .ok (.invokevirtual 57, 3) := by decide +kernel
theorem dX6_set_17 : decode cX6_set 17 = .ok (.ifCond .ne 6, 3) := by decide +kernel
theorem dX6_set_20 : decode cX6_set 20 = .ok (.bipush (-2), 2) := by decide +kernel
theorem dX6_set_22 : decode cX6_set 22 = .ok (.ireturn, 1) := by decide +kernel
theorem dX6_set_23 : decode cX6_set 23 = .ok (.aload_n 0, 1) := by decide +kernel
theorem dX6_set_24 : decode cX6_set 24 = .ok (.iload_n 1, 1) := by decide +kernel
theorem dX6_set_25 : decode cX6_set 25 = .ok (.iload_n 2, 1) := by decide +kernel
theorem dX6_set_26 : decode cX6_set 26 = .ok (.iload_n 3, 1) := by decide +kernel
theorem dX6_set_27 : decode cX6_set 27 = .ok (.invokevirtual 61, 3) := by decide +kernel
theorem dX6_set_30 : decode cX6_set 30 = .ok (.ifCond .ne 6, 3) := by decide +kernel
theorem dX6_set_33 : decode cX6_set 33 = .ok (.bipush (-3), 2) := by decide +kernel
theorem dX6_set_35 : decode cX6_set 35 = .ok (.ireturn, 1) := by decide +kernel
theorem dX6_set_36 : decode cX6_set 36 = .ok (.aload_n 0, 1) := by decide +kernel
theorem dX6_set_37 : decode cX6_set 37 = .ok (.getfield 23, 3) := by decide +kernel
theorem dX6_set_40 : decode cX6_set 40 = .ok (.iload_n 1, 1) := by decide +kernel
theorem dX6_set_41 : decode cX6_set 41 = .ok (.iload_n 2, 1) := by decide +kernel
theorem dX6_set_42 : decode cX6_set 42 = .ok (.iload_n 3, 1) := by decide +kernel
theorem dX6_set_43 : decode cX6_set 43 = .ok (.invokestatic 53, 3) := by decide +kernel
theorem dX6_set_46 : decode cX6_set 46 = .ok (.lload 4, 2) := by decide +kernel
theorem dX6_set_48 : decode cX6_set 48 = .ok (.lastore, 1) := by decide +kernel
theorem dX6_set_49 : decode cX6_set 49 = .ok (.iconst 1, 1) := by decide +kernel
theorem dX6_set_50 : decode cX6_set 50 = .ok (.ireturn, 1) := by decide +kernel
theorem dX6_prune_0 : decode cX6_prune 0 = .ok (.aload_n 0, 1) := by decide +kernel
theorem dX6_prune_1 : decode cX6_prune 1 = .ok (.iload_n 1, 1) := by decide +kernel
theorem dX6_prune_2 : decode cX6_prune 2 = .ok (.invokevirtual 78, 3) := by decide +kernel
theorem dX6_prune_5 : decode cX6_prune 5 = .ok (.ifCond .ne 5, 3) := by decide +kernel
theorem dX6_prune_8 : decode cX6_prune 8 = .ok (.iconst (-1), 1) := by decide +kernel
theorem dX6_prune_9 : decode cX6_prune 9 = .ok (.ireturn, 1) := by decide +kernel
theorem dX6_prune_10 : decode cX6_prune 10 = .ok (.iconst 0, 1) := by decide +kernel
theorem dX6_prune_11 : decode cX6_prune 11 = .ok (.istore_n 2, 1) := by decide +kernel
theorem dX6_prune_12 : decode cX6_prune 12 = .ok (.sipush 256, 3) := by decide +kernel
theorem dX6_prune_15 : decode cX6_prune 15 = .ok (.iload_n 1, 1) := by decide +kernel
theorem dX6_prune_16 : decode cX6_prune 16 = .ok (.imul, 1) := by decide +kernel
theorem dX6_prune_17 : decode cX6_prune 17 = .ok (.istore_n 3, 1) := by decide +kernel
theorem dX6_prune_18 : decode cX6_prune 18 = .ok (.iload_n 3, 1) := by decide +kernel
theorem dX6_prune_19 : decode cX6_prune 19 = .ok (.sipush 256, 3) := by decide +kernel
theorem dX6_prune_22 : decode cX6_prune 22 = .ok (.iload_n 1, 1) := by decide +kernel
theorem dX6_prune_23 : decode cX6_prune 23 = .ok (.imul, 1) := by decide +kernel
theorem dX6_prune_24 : decode cX6_prune 24 = .ok (.sipush 256, 3) := by decide +kernel
theorem dX6_prune_27 : decode cX6_prune 27 = .ok (.iadd, 1) := by decide +kernel
theorem dX6_prune_28 : decode cX6_prune 28 = .ok (.if_icmp .ge 39, 3) := by decide +kernel
theorem dX6_prune_31 : decode cX6_prune 31 = .ok (.aload_n 0, 1) := by decide +kernel
theorem dX6_prune_32 : decode cX6_prune 32 = .ok (.getfield 20, 3) := by decide +kernel
theorem dX6_prune_35 : decode cX6_prune 35 = .ok (.iload_n 3, 1) := by decide +kernel
theorem dX6_prune_36 : decode cX6_prune 36 = .ok (.baload, 1) := by decide +kernel
theorem dX6_prune_37 : decode cX6_prune 37 = .ok (.ifCond .eq 24, 3) := by decide +kernel
theorem dX6_prune_40 : decode cX6_prune 40 = .ok (.aload_n 0, 1) := by decide +kernel
theorem dX6_prune_41 : decode cX6_prune 41 = .ok (.getfield 23, 3) := by decide +kernel
theorem dX6_prune_44 : decode cX6_prune 44 = .ok (.iload_n 3, 1) := by decide +kernel
theorem dX6_prune_45 : decode cX6_prune 45 = .ok (.laload, 1) := by decide +kernel
theorem dX6_prune_46 : decode cX6_prune 46 = .ok (.lconst 0, 1) := by decide +kernel
theorem dX6_prune_47 : decode cX6_prune 47 = .ok (.lcmp, 1) := by decide +kernel
theorem dX6_prune_48 : decode cX6_prune 48 = .ok (.ifCond .ne 13, 3) := by decide +kernel
theorem dX6_prune_51 : decode cX6_prune 51 = .ok (.aload_n 0, 1) := by decide +kernel
theorem dX6_prune_52 : decode cX6_prune 52 = .ok (.getfield 20, 3) := by decide +kernel
theorem dX6_prune_55 : decode cX6_prune 55 = .ok (.iload_n 3, 1) := by decide +kernel
theorem dX6_prune_56 : decode cX6_prune 56 = .ok (.iconst 0, 1) := by decide +kernel
theorem dX6_prune_57 : decode cX6_prune 57 = .ok (.bastore, 1) := by decide +kernel
theorem dX6_prune_58 : decode cX6_prune 58 = .ok (.iinc 2 1, 3) := by decide +kernel
theorem dX6_prune_61 : decode cX6_prune 61 = .ok (.iinc 3 1, 3) := by decide +kernel
theorem dX6_prune_64 : decode cX6_prune 64 = .ok (.goto (-46), 3) := by decide +kernel
theorem dX6_prune_67 : decode cX6_prune 67 = .ok (.iload_n 2, 1) := by decide +kernel
theorem dX6_prune_68 : decode cX6_prune 68 = .ok (.ireturn, 1) := by decide +kernel
theorem dX6_areLike_0 : decode cX6_areLike 0 = .ok (.aload_n 0, 1) := by decide +kernel
theorem dX6_areLike_1 : decode cX6_areLike 1 = .ok (.getfield 13, 3) := by decide +kernel
theorem dX6_areLike_4 : decode cX6_areLike 4 = .ok (.iload_n 1, 1) := by decide +kernel
theorem dX6_areLike_5 : decode cX6_areLike 5 = .ok (.iaload, 1) := by decide +kernel
theorem dX6_areLike_6 : decode cX6_areLike 6 = .ok (.aload_n 0, 1) := by decide +kernel
theorem dX6_areLike_7 : decode cX6_areLike 7 = .ok (.getfield 13, 3) := by decide +kernel
theorem dX6_areLike_10 : decode cX6_areLike 10 = .ok (.iload_n 2, 1) := by decide +kernel
theorem dX6_areLike_11 : decode cX6_areLike 11 = .ok (.iaload, 1) := by decide +kernel
theorem dX6_areLike_12 : decode cX6_areLike 12 = .ok (.if_icmp .ne 22, 3) := by decide +kernel
theorem dX6_areLike_15 : decode cX6_areLike 15 = .ok (.aload_n 0, 1) := by decide +kernel
theorem dX6_areLike_16 : decode cX6_areLike 16 = .ok (.getfield 17, 3) := by decide +kernel
theorem dX6_areLike_19 : decode cX6_areLike 19 = .ok (.iload_n 1, 1) := by decide +kernel
theorem dX6_areLike_20 : decode cX6_areLike 20 = .ok (.iaload, 1) := by decide +kernel
theorem dX6_areLike_21 : decode cX6_areLike 21 = .ok (.aload_n 0, 1) := by decide +kernel
theorem dX6_areLike_22 : decode cX6_areLike 22 = .ok (.getfield 17, 3) := by decide +kernel
theorem dX6_areLike_25 : decode cX6_areLike 25 = .ok (.iload_n 2, 1) := by decide +kernel
theorem dX6_areLike_26 : decode cX6_areLike 26 = .ok (.iaload, 1) := by decide +kernel
theorem dX6_areLike_27 : decode cX6_areLike 27 = .ok (.if_icmp .ne 7, 3) := by decide +kernel
theorem dX6_areLike_30 : decode cX6_areLike 30 = .ok (.iconst 1, 1) := by decide +kernel
theorem dX6_areLike_31 : decode cX6_areLike 31 = .ok (.goto 4, 3) := by decide +kernel
theorem dX6_areLike_34 : decode cX6_areLike 34 = .ok (.iconst 0, 1) := by decide +kernel
theorem dX6_areLike_35 : decode cX6_areLike 35 = .ok (.ireturn, 1) := by decide +kernel
theorem dX6_add_0 : decode cX6_add 0 = .ok (.iload_n 3, 1) := by decide +kernel
theorem dX6_add_1 : decode cX6_add 1 = .ok (.invokestatic 45, 3) := by decide +kernel
theorem dX6_add_4 : decode cX6_add 4 = .ok (.ifCond .eq 19, 3) := by decide +kernel
theorem dX6_add_7 : decode cX6_add 7 = .ok (.aload_n 0, 1) := by decide +kernel
theorem dX6_add_8 : decode cX6_add 8 = .ok (.iload_n 1, 1) := by decide +kernel
theorem dX6_add_9 : decode cX6_add 9 = .ok (.invokevirtual 78, 3) := by decide +kernel
theorem dX6_add_12 : decode cX6_add 12 = .ok (.ifCond .eq 11, 3) := by decide +kernel
theorem dX6_add_15 : decode cX6_add 15 = .ok (.aload_n 0, 1) := by decide +kernel
theorem dX6_add_16 : decode cX6_add 16 = .ok (.iload_n 2, 1) := by decide +kernel
theorem dX6_add_17 : decode cX6_add 17 = .ok (.invokevirtual 78, 3) := by decide +kernel
theorem dX6_add_20 : decode cX6_add 20 = .ok (.ifCond .ne 5, 3) := by decide +kernel
theorem dX6_add_23 : decode cX6_add 23 = .ok (.iconst (-1), 1) := by decide +kernel
theorem dX6_add_24 : decode cX6_add 24 = .ok (.ireturn, 1) := by decide +kernel
theorem dX6_add_25 : decode cX6_add 25 = .ok (.aload_n 0, 1) := by decide +kernel
theorem dX6_add_26 : decode cX6_add 26 = .ok (.iload_n 1, 1) := by decide +kernel
theorem dX6_add_27 : decode cX6_add 27 = .ok (.iload_n 2, 1) := by decide +kernel
theorem dX6_add_28 : decode cX6_add 28 = .ok (.invokevirtual 89, 3) := by decide +kernel
theorem dX6_add_31 : decode cX6_add 31 = .ok (.ifCond .ne 6, 3) := by decide +kernel
theorem dX6_add_34 : decode cX6_add 34 = .ok (.bipush (-3), 2) := by decide +kernel
theorem dX6_add_36 : decode cX6_add 36 = .ok (.ireturn, 1) := by decide +kernel
theorem dX6_add_37 : decode cX6_add 37 = .ok (.aload_n 0, 1) := by decide +kernel
theorem dX6_add_38 : decode cX6_add 38 = .ok (.aload_n 0, 1) := by decide +kernel
theorem dX6_add_39 : decode cX6_add 39 = .ok (.getfield 13, 3) := by decide +kernel
theorem dX6_add_42 : decode cX6_add 42 = .ok (.iload_n 1, 1) := by decide +kernel
theorem dX6_add_43 : decode cX6_add 43 = .ok (.iaload, 1) := by decide +kernel
theorem dX6_add_44 : decode cX6_add 44 = .ok (.aload_n 0, 1) := by decide +kernel
theorem dX6_add_45 : decode cX6_add 45 = .ok (.getfield 17, 3) := by decide +kernel
theorem dX6_add_48 : decode cX6_add 48 = .ok (.iload_n 1, 1) := by decide +kernel
theorem dX6_add_49 : decode cX6_add 49 = .ok (.iaload, 1) := by decide +kernel
theorem dX6_add_50 : decode cX6_add 50 = .ok (.invokevirtual 64, 3) := by decide +kernel
theorem dX6_add_53 : decode cX6_add 53 = .ok (.iconst 0, 1) := by decide +kernel
theorem dX6_add_54 : decode cX6_add 54 = .ok (.istore 8, 2) := by decide +kernel
theorem dX6_add_56 : decode cX6_add 56 = .ok (.iload 8, 2) := by decide +kernel
theorem dX6_add_58 : decode cX6_add 58 = .ok (.aload_n 0, 1) := by decide +kernel
theorem dX6_add_59 : decode cX6_add 59 = .ok (.getfield 13, 3) := by decide +kernel
theorem dX6_add_62 : decode cX6_add 62 = .ok (.iload_n 1, 1) := by decide +kernel
theorem dX6_add_63 : decode cX6_add 63 = .ok (.iaload, 1) := by decide +kernel
theorem dX6_add_64 : decode cX6_add 64 = .ok (.if_icmp .ge 86, 3) := by decide +kernel
theorem dX6_add_67 : decode cX6_add 67 = .ok (.iconst 0, 1) := by decide +kernel
theorem dX6_add_68 : decode cX6_add 68 = .ok (.istore 9, 2) := by decide +kernel
theorem dX6_add_70 : decode cX6_add 70 = .ok (.iload 9, 2) := by decide +kernel
theorem dX6_add_72 : decode cX6_add 72 = .ok (.aload_n 0, 1) := by decide +kernel
theorem dX6_add_73 : decode cX6_add 73 = .ok (.getfield 17, 3) := by decide +kernel
theorem dX6_add_76 : decode cX6_add 76 = .ok (.iload_n 1, 1) := by decide +kernel
theorem dX6_add_77 : decode cX6_add 77 = .ok (.iaload, 1) := by decide +kernel
theorem dX6_add_78 : decode cX6_add 78 = .ok (.if_icmp .ge 66, 3) := by decide +kernel
theorem dX6_add_81 : decode cX6_add 81 = .ok (.aload_n 0, 1) := by decide +kernel
theorem dX6_add_82 : decode cX6_add 82 = .ok (.iload_n 1, 1) := by decide +kernel
theorem dX6_add_83 : decode cX6_add 83 = .ok (.iload 8, 2) := by decide +kernel
theorem dX6_add_85 : decode cX6_add 85 = .ok (.iload 9, 2) := by decide +kernel
theorem dX6_add_87 : decode cX6_add 87 = .ok (.invokevirtual 61, 3) := by decide +kernel
theorem dX6_add_90 : decode cX6_add 90 = .ok (.ifCond .ne 15, 3) := by decide +kernel
theorem dX6_add_93 : decode cX6_add 93 = .ok (.aload_n 0, 1) := by decide +kernel
theorem dX6_add_94 : decode cX6_add 94 = .ok (.iload_n 2, 1) := by decide +kernel
theorem dX6_add_95 : decode cX6_add 95 = .ok (.iload 8, 2) := by decide +kernel
theorem dX6_add_97 : decode cX6_add 97 = .ok (.iload 9, 2) := by decide +kernel
theorem dX6_add_99 : decode cX6_add 99 = .ok (.invokevirtual 61, 3) := by decide +kernel
theorem dX6_add_102 : decode cX6_add 102 = .ok (.ifCond .eq 36, 3) := by decide +kernel
theorem dX6_add_105 : decode cX6_add 105 = .ok (.aload_n 0, 1) := by decide +kernel
theorem dX6_add_106 : decode cX6_add 106 = .ok (.iload 8, 2) := by decide +kernel
theorem dX6_add_108 : decode cX6_add 108 = .ok (.iload 9, 2) := by decide +kernel
theorem dX6_add_110 : decode cX6_add 110 = .ok (.lload 4, 2) := by decide +kernel
theorem dX6_add_112 : decode cX6_add 112 = .ok (.aload_n 0, 1) := by decide +kernel
theorem dX6_add_113 : decode cX6_add 113 = .ok (.iload_n 1, 1) := by decide +kernel
theorem dX6_add_114 : decode cX6_add 114 = .ok (.iload 8, 2) := by decide +kernel
theorem dX6_add_116 : decode cX6_add 116 = .ok (.iload 9, 2) := by decide +kernel
theorem dX6_add_118 : decode cX6_add 118 = .ok (.invokevirtual 85, 3) := by decide +kernel
theorem dX6_add_121 : decode cX6_add 121 = .ok (.lmul, 1) := by decide +kernel
theorem dX6_add_122 : decode cX6_add 122 = .ok (.lload 6, 2) := by decide +kernel
theorem dX6_add_124 : decode cX6_add 124 = .ok (.aload_n 0, 1) := by decide +kernel
theorem dX6_add_125 : decode cX6_add 125 = .ok (.iload_n 2, 1) := by decide +kernel
theorem dX6_add_126 : decode cX6_add 126 = .ok (.iload 8, 2) := by decide +kernel
theorem dX6_add_128 : decode cX6_add 128 = .ok (.iload 9, 2) := by decide +kernel
theorem dX6_add_130 : decode cX6_add 130 = .ok (.invokevirtual 85, 3) := by decide +kernel
theorem dX6_add_133 : decode cX6_add 133 = .ok (.lmul, 1) := by decide +kernel
theorem dX6_add_134 : decode cX6_add 134 = .ok (.ladd, 1) := by decide +kernel
theorem dX6_add_135 : decode cX6_add 135 = .ok (.invokevirtual 93, 3) := by decide +kernel
theorem dX6_add_138 : decode cX6_add 138 = .ok (.iinc 9 1, 3) := by decide +kernel
theorem dX6_add_141 : decode cX6_add 141 = .ok (.goto (-71), 3) := by decide +kernel
theorem dX6_add_144 : decode cX6_add 144 = .ok (.iinc 8 1, 3) := by decide +kernel
theorem dX6_add_147 : decode cX6_add 147 = .ok (.goto (-91), 3) := by decide +kernel
theorem dX6_add_150 : decode cX6_add 150 = .ok (.aload_n 0, 1) := by decide +kernel
theorem dX6_add_151 : decode cX6_add 151 = .ok (.iload_n 3, 1) := by decide +kernel
theorem dX6_add_152 : decode cX6_add 152 = .ok (.invokevirtual 68, 3) := by decide +kernel
theorem dX6_add_155 : decode cX6_add 155 = .ok (.ireturn, 1) := by decide +kernel
theorem dX6_times_0 : decode cX6_times 0 = .ok (.iload_n 3, 1) := by decide +kernel
theorem dX6_times_1 : decode cX6_times 1 = .ok (.invokestatic 45, 3) := by decide +kernel
theorem dX6_times_4 : decode cX6_times 4 = .ok (.ifCond .eq 19, 3) := by decide +kernel
theorem dX6_times_7 : decode cX6_times 7 = .ok (.aload_n 0, 1) := by decide +kernel
theorem dX6_times_8 : decode cX6_times 8 = .ok (.iload_n 1, 1) := by decide +kernel
theorem dX6_times_9 : decode cX6_times 9 = .ok (.invokevirtual 78, 3) := by decide +kernel
theorem dX6_times_12 : decode cX6_times 12 = .ok (.ifCond .eq 11, 3) := by decide +kernel
theorem dX6_times_15 : decode cX6_times 15 = .ok (.aload_n 0, 1) := by decide +kernel
theorem dX6_times_16 : decode cX6_times 16 = .ok (.iload_n 2, 1) := by decide +kernel
theorem dX6_times_17 : decode cX6_times 17 = .ok (.invokevirtual 78, 3) := by decide +kernel
theorem dX6_times_20 : decode cX6_times 20 = .ok (.ifCond .ne 5, 3) := by decide +kernel
theorem dX6_times_23 : decode cX6_times 23 = .ok (.iconst (-1), 1) := by decide +kernel
theorem dX6_times_24 : decode cX6_times 24 = .ok (.ireturn, 1) := by decide +kernel
theorem dX6_times_25 : decode cX6_times 25 = .ok (.aload_n 0, 1) := by decide +kernel
theorem dX6_times_26 : decode cX6_times 26 = .ok (.getfield 17, 3) := by decide +kernel
theorem dX6_times_29 : decode cX6_times 29 = .ok (.iload_n 1, 1) := by decide +kernel
theorem dX6_times_30 : decode cX6_times 30 = .ok (.iaload, 1) := by decide +kernel
theorem dX6_times_31 : decode cX6_times 31 = .ok (.aload_n 0, 1) := by decide +kernel
theorem dX6_times_32 : decode cX6_times 32 = .ok (.getfield 13, 3) := by decide +kernel
theorem dX6_times_35 : decode cX6_times 35 = .ok (.iload_n 2, 1) := by decide +kernel
theorem dX6_times_36 : decode cX6_times 36 = .ok (.iaload, 1) := by decide +kernel
theorem dX6_times_37 : decode cX6_times 37 = .ok (.if_icmp .eq 6, 3) := by decide +kernel
theorem dX6_times_40 : decode cX6_times 40 = .ok (.bipush (-3), 2) := by decide +kernel
theorem dX6_times_42 : decode cX6_times 42 = .ok (.ireturn, 1) := by decide +kernel
theorem dX6_times_43 : decode cX6_times 43 = .ok (.aload_n 0, 1) := by decide +kernel
theorem dX6_times_44 : decode cX6_times 44 = .ok (.aload_n 0, 1) := by decide +kernel
theorem dX6_times_45 : decode cX6_times 45 = .ok (.getfield 13, 3) := by decide +kernel
theorem dX6_times_48 : decode cX6_times 48 = .ok (.iload_n 1, 1) := by decide +kernel
theorem dX6_times_49 : decode cX6_times 49 = .ok (.iaload, 1) := by decide +kernel
theorem dX6_times_50 : decode cX6_times 50 = .ok (.aload_n 0, 1) := by decide +kernel
theorem dX6_times_51 : decode cX6_times 51 = .ok (.getfield 17, 3) := by decide +kernel
theorem dX6_times_54 : decode cX6_times 54 = .ok (.iload_n 2, 1) := by decide +kernel
theorem dX6_times_55 : decode cX6_times 55 = .ok (.iaload, 1) := by decide +kernel
theorem dX6_times_56 : decode cX6_times 56 = .ok (.invokevirtual 64, 3) := by decide +kernel
theorem dX6_times_59 : decode cX6_times 59 = .ok (.iconst 0, 1) := by decide +kernel
theorem dX6_times_60 : decode cX6_times 60 = .ok (.istore 4, 2) := by decide +kernel
theorem dX6_times_62 : decode cX6_times 62 = .ok (.iload 4, 2) := by decide +kernel
theorem dX6_times_64 : decode cX6_times 64 = .ok (.aload_n 0, 1) := by decide +kernel
theorem dX6_times_65 : decode cX6_times 65 = .ok (.getfield 13, 3) := by decide +kernel
theorem dX6_times_68 : decode cX6_times 68 = .ok (.iload_n 1, 1) := by decide +kernel
theorem dX6_times_69 : decode cX6_times 69 = .ok (.iaload, 1) := by decide +kernel
theorem dX6_times_70 : decode cX6_times 70 = .ok (.if_icmp .ge 130, 3) := by decide +kernel
theorem dX6_times_73 : decode cX6_times 73 = .ok (.iconst 0, 1) := by decide +kernel
theorem dX6_times_74 : decode cX6_times 74 = .ok (.istore 5, 2) := by decide +kernel
theorem dX6_times_76 : decode cX6_times 76 = .ok (.iload 5, 2) := by decide +kernel
theorem dX6_times_78 : decode cX6_times 78 = .ok (.aload_n 0, 1) := by decide +kernel
theorem dX6_times_79 : decode cX6_times 79 = .ok (.getfield 17, 3) := by decide +kernel
theorem dX6_times_82 : decode cX6_times 82 = .ok (.iload_n 2, 1) := by decide +kernel
theorem dX6_times_83 : decode cX6_times 83 = .ok (.iaload, 1) := by decide +kernel
theorem dX6_times_84 : decode cX6_times 84 = .ok (.if_icmp .ge 110, 3) := by decide +kernel
theorem dX6_times_87 : decode cX6_times 87 = .ok (.iconst 0, 1) := by decide +kernel
theorem dX6_times_88 : decode cX6_times 88 = .ok (.istore 6, 2) := by decide +kernel
theorem dX6_times_90 : decode cX6_times 90 = .ok (.lconst 0, 1) := by decide +kernel
theorem dX6_times_91 : decode cX6_times 91 = .ok (.lstore 7, 2) := by decide +kernel
theorem dX6_times_93 : decode cX6_times 93 = .ok (.iconst 0, 1) := by decide +kernel
theorem dX6_times_94 : decode cX6_times 94 = .ok (.istore 9, 2) := by decide +kernel
theorem dX6_times_96 : decode cX6_times 96 = .ok (.iload 9, 2) := by decide +kernel
theorem dX6_times_98 : decode cX6_times 98 = .ok (.aload_n 0, 1) := by decide +kernel
theorem dX6_times_99 : decode cX6_times 99 = .ok (.getfield 17, 3) := by decide +kernel
theorem dX6_times_102 : decode cX6_times 102 = .ok (.iload_n 1, 1) := by decide +kernel
theorem dX6_times_103 : decode cX6_times 103 = .ok (.iaload, 1) := by decide +kernel
theorem dX6_times_104 : decode cX6_times 104 = .ok (.if_icmp .ge 69, 3) := by decide +kernel
theorem dX6_times_107 : decode cX6_times 107 = .ok (.iload 6, 2) := by decide +kernel
theorem dX6_times_109 : decode cX6_times 109 = .ok (.ifCond .ne 27, 3) := by decide +kernel
theorem dX6_times_112 : decode cX6_times 112 = .ok (.aload_n 0, 1) := by decide +kernel
theorem dX6_times_113 : decode cX6_times 113 = .ok (.iload_n 1, 1) := by decide +kernel
theorem dX6_times_114 : decode cX6_times 114 = .ok (.iload 4, 2) := by decide +kernel
theorem dX6_times_116 : decode cX6_times 116 = .ok (.iload 9, 2) := by decide +kernel
theorem dX6_times_118 : decode cX6_times 118 = .ok (.invokevirtual 61, 3) := by decide +kernel
theorem dX6_times_121 : decode cX6_times 121 = .ok (.ifCond .eq 19, 3) := by decide +kernel
theorem dX6_times_124 : decode cX6_times 124 = .ok (.aload_n 0, 1) := by decide +kernel
theorem dX6_times_125 : decode cX6_times 125 = .ok (.iload_n 2, 1) := by decide +kernel
theorem dX6_times_126 : decode cX6_times 126 = .ok (.iload 9, 2) := by decide +kernel
theorem dX6_times_128 : decode cX6_times 128 = .ok (.iload 5, 2) := by decide +kernel
theorem dX6_times_130 : decode cX6_times 130 = .ok (.invokevirtual 61, 3) := by decide +kernel
theorem dX6_times_133 : decode cX6_times 133 = .ok (.ifCond .eq 7, 3) := by decide +kernel
theorem dX6_times_136 : decode cX6_times 136 = .ok (.iconst 1, 1) := by decide +kernel
theorem dX6_times_137 : decode cX6_times 137 = .ok (.goto 4, 3) := by decide +kernel
theorem dX6_times_140 : decode cX6_times 140 = .ok (.iconst 0, 1) := by decide +kernel
theorem dX6_times_141 : decode cX6_times 141 = .ok (.istore 6, 2) := by decide +kernel
theorem dX6_times_143 : decode cX6_times 143 = .ok (.lload 7, 2) := by decide +kernel
theorem dX6_times_145 : decode cX6_times 145 = .ok (.aload_n 0, 1) := by decide +kernel
theorem dX6_times_146 : decode cX6_times 146 = .ok (.iload_n 1, 1) := by decide +kernel
theorem dX6_times_147 : decode cX6_times 147 = .ok (.iload 4, 2) := by decide +kernel
theorem dX6_times_149 : decode cX6_times 149 = .ok (.iload 9, 2) := by decide +kernel
theorem dX6_times_151 : decode cX6_times 151 = .ok (.invokevirtual 85, 3) := by decide +kernel
theorem dX6_times_154 : decode cX6_times 154 = .ok (.aload_n 0, 1) := by decide +kernel
theorem dX6_times_155 : decode cX6_times 155 = .ok (.iload_n 2, 1) := by decide +kernel
theorem dX6_times_156 : decode cX6_times 156 = .ok (.iload 9, 2) := by decide +kernel
theorem dX6_times_158 : decode cX6_times 158 = .ok (.iload 5, 2) := by decide +kernel
theorem dX6_times_160 : decode cX6_times 160 = .ok (.invokevirtual 85, 3) := by decide +kernel
theorem dX6_times_163 : decode cX6_times 163 = .ok (.lmul, 1) := by decide +kernel
theorem dX6_times_164 : decode cX6_times 164 = .ok (.ladd, 1) := by decide +kernel
theorem dX6_times_165 : decode cX6_times 165 = .ok (.lstore 7, 2) := by decide +kernel
theorem dX6_times_167 : decode cX6_times 167 = .ok (.iinc 9 1, 3) := by decide +kernel
theorem dX6_times_170 : decode cX6_times 170 = .ok (.goto (-74), 3) := by decide +kernel
theorem dX6_times_173 : decode cX6_times 173 = .ok (.iload 6, 2) := by decide +kernel
theorem dX6_times_175 : decode cX6_times 175 = .ok (.ifCond .eq 13, 3) := by decide +kernel
theorem dX6_times_178 : decode cX6_times 178 = .ok (.aload_n 0, 1) := by decide +kernel
theorem dX6_times_179 : decode cX6_times 179 = .ok (.iload 4, 2) := by decide +kernel
theorem dX6_times_181 : decode cX6_times 181 = .ok (.iload 5, 2) := by decide +kernel
theorem dX6_times_183 : decode cX6_times 183 = .ok (.lload 7, 2) := by decide +kernel
theorem dX6_times_185 : decode cX6_times 185 = .ok (.invokevirtual 93, 3) := by decide +kernel
theorem dX6_times_188 : decode cX6_times 188 = .ok (.iinc 5 1, 3) := by decide +kernel
theorem dX6_times_191 : decode cX6_times 191 = .ok (.goto (-115), 3) := by decide +kernel
theorem dX6_times_194 : decode cX6_times 194 = .ok (.iinc 4 1, 3) := by decide +kernel
theorem dX6_times_197 : decode cX6_times 197 = .ok (.goto (-135), 3) := by decide +kernel
theorem dX6_times_200 : decode cX6_times 200 = .ok (.aload_n 0, 1) := by decide +kernel
theorem dX6_times_201 : decode cX6_times 201 = .ok (.iload_n 3, 1) := by decide +kernel
theorem dX6_times_202 : decode cX6_times 202 = .ok (.invokevirtual 68, 3) := by decide +kernel
theorem dX6_times_205 : decode cX6_times 205 = .ok (.ireturn, 1) := by decide +kernel
theorem dX6_each_0 : decode cX6_each 0 = .ok (.iload_n 3, 1) := by decide +kernel
theorem dX6_each_1 : decode cX6_each 1 = .ok (.invokestatic 45, 3) := by decide +kernel
theorem dX6_each_4 : decode cX6_each 4 = .ok (.ifCond .eq 19, 3) := by decide +kernel
theorem dX6_each_7 : decode cX6_each 7 = .ok (.aload_n 0, 1) := by decide +kernel
theorem dX6_each_8 : decode cX6_each 8 = .ok (.iload_n 1, 1) := by decide +kernel
theorem dX6_each_9 : decode cX6_each 9 = .ok (.invokevirtual 78, 3) := by decide +kernel
theorem dX6_each_12 : decode cX6_each 12 = .ok (.ifCond .eq 11, 3) := by decide +kernel
theorem dX6_each_15 : decode cX6_each 15 = .ok (.aload_n 0, 1) := by decide +kernel
theorem dX6_each_16 : decode cX6_each 16 = .ok (.iload_n 2, 1) := by decide +kernel
theorem dX6_each_17 : decode cX6_each 17 = .ok (.invokevirtual 78, 3) := by decide +kernel
theorem dX6_each_20 : decode cX6_each 20 = .ok (.ifCond .ne 5, 3) := by decide +kernel
theorem dX6_each_23 : decode cX6_each 23 = .ok (.iconst (-1), 1) := by decide +kernel
theorem dX6_each_24 : decode cX6_each 24 = .ok (.ireturn, 1) := by decide +kernel
theorem dX6_each_25 : decode cX6_each 25 = .ok (.aload_n 0, 1) := by decide +kernel
theorem dX6_each_26 : decode cX6_each 26 = .ok (.iload_n 1, 1) := by decide +kernel
theorem dX6_each_27 : decode cX6_each 27 = .ok (.iload_n 2, 1) := by decide +kernel
theorem dX6_each_28 : decode cX6_each 28 = .ok (.invokevirtual 89, 3) := by decide +kernel
theorem dX6_each_31 : decode cX6_each 31 = .ok (.ifCond .ne 6, 3) := by decide +kernel
theorem dX6_each_34 : decode cX6_each 34 = .ok (.bipush (-3), 2) := by decide +kernel
theorem dX6_each_36 : decode cX6_each 36 = .ok (.ireturn, 1) := by decide +kernel
theorem dX6_each_37 : decode cX6_each 37 = .ok (.aload_n 0, 1) := by decide +kernel
theorem dX6_each_38 : decode cX6_each 38 = .ok (.aload_n 0, 1) := by decide +kernel
theorem dX6_each_39 : decode cX6_each 39 = .ok (.getfield 13, 3) := by decide +kernel
theorem dX6_each_42 : decode cX6_each 42 = .ok (.iload_n 1, 1) := by decide +kernel
theorem dX6_each_43 : decode cX6_each 43 = .ok (.iaload, 1) := by decide +kernel
theorem dX6_each_44 : decode cX6_each 44 = .ok (.aload_n 0, 1) := by decide +kernel
theorem dX6_each_45 : decode cX6_each 45 = .ok (.getfield 17, 3) := by decide +kernel
theorem dX6_each_48 : decode cX6_each 48 = .ok (.iload_n 1, 1) := by decide +kernel
theorem dX6_each_49 : decode cX6_each 49 = .ok (.iaload, 1) := by decide +kernel
theorem dX6_each_50 : decode cX6_each 50 = .ok (.invokevirtual 64, 3) := by decide +kernel
theorem dX6_each_53 : decode cX6_each 53 = .ok (.iconst 0, 1) := by decide +kernel
theorem dX6_each_54 : decode cX6_each 54 = .ok (.istore 4, 2) := by decide +kernel
theorem dX6_each_56 : decode cX6_each 56 = .ok (.iload 4, 2) := by decide +kernel
theorem dX6_each_58 : decode cX6_each 58 = .ok (.aload_n 0, 1) := by decide +kernel
theorem dX6_each_59 : decode cX6_each 59 = .ok (.getfield 13, 3) := by decide +kernel
theorem dX6_each_62 : decode cX6_each 62 = .ok (.iload_n 1, 1) := by decide +kernel
theorem dX6_each_63 : decode cX6_each 63 = .ok (.iaload, 1) := by decide +kernel
theorem dX6_each_64 : decode cX6_each 64 = .ok (.if_icmp .ge 80, 3) := by decide +kernel
theorem dX6_each_67 : decode cX6_each 67 = .ok (.iconst 0, 1) := by decide +kernel
theorem dX6_each_68 : decode cX6_each 68 = .ok (.istore 5, 2) := by decide +kernel
theorem dX6_each_70 : decode cX6_each 70 = .ok (.iload 5, 2) := by decide +kernel
theorem dX6_each_72 : decode cX6_each 72 = .ok (.aload_n 0, 1) := by decide +kernel
theorem dX6_each_73 : decode cX6_each 73 = .ok (.getfield 17, 3) := by decide +kernel
theorem dX6_each_76 : decode cX6_each 76 = .ok (.iload_n 1, 1) := by decide +kernel
theorem dX6_each_77 : decode cX6_each 77 = .ok (.iaload, 1) := by decide +kernel
theorem dX6_each_78 : decode cX6_each 78 = .ok (.if_icmp .ge 60, 3) := by decide +kernel
theorem dX6_each_81 : decode cX6_each 81 = .ok (.aload_n 0, 1) := by decide +kernel
theorem dX6_each_82 : decode cX6_each 82 = .ok (.iload_n 1, 1) := by decide +kernel
theorem dX6_each_83 : decode cX6_each 83 = .ok (.iload 4, 2) := by decide +kernel
theorem dX6_each_85 : decode cX6_each 85 = .ok (.iload 5, 2) := by decide +kernel
theorem dX6_each_87 : decode cX6_each 87 = .ok (.invokevirtual 61, 3) := by decide +kernel
theorem dX6_each_90 : decode cX6_each 90 = .ok (.ifCond .eq 42, 3) := by decide +kernel
theorem dX6_each_93 : decode cX6_each 93 = .ok (.aload_n 0, 1) := by decide +kernel
theorem dX6_each_94 : decode cX6_each 94 = .ok (.iload_n 2, 1) := by decide +kernel
theorem dX6_each_95 : decode cX6_each 95 = .ok (.iload 4, 2) := by decide +kernel
theorem dX6_each_97 : decode cX6_each 97 = .ok (.iload 5, 2) := by decide +kernel
theorem dX6_each_99 : decode cX6_each 99 = .ok (.invokevirtual 61, 3) := by decide +kernel
theorem dX6_each_102 : decode cX6_each 102 = .ok (.ifCond .eq 30, 3) := by decide +kernel
theorem dX6_each_105 : decode cX6_each 105 = .ok (.aload_n 0, 1) := by decide +kernel
theorem dX6_each_106 : decode cX6_each 106 = .ok (.iload 4, 2) := by decide +kernel
theorem dX6_each_108 : decode cX6_each 108 = .ok (.iload 5, 2) := by decide +kernel
theorem dX6_each_110 : decode cX6_each 110 = .ok (.aload_n 0, 1) := by decide +kernel
theorem dX6_each_111 : decode cX6_each 111 = .ok (.iload_n 1, 1) := by decide +kernel
theorem dX6_each_112 : decode cX6_each 112 = .ok (.iload 4, 2) := by decide +kernel
theorem dX6_each_114 : decode cX6_each 114 = .ok (.iload 5, 2) := by decide +kernel
theorem dX6_each_116 : decode cX6_each 116 = .ok (.invokevirtual 85, 3) := by decide +kernel
theorem dX6_each_119 : decode cX6_each 119 = .ok (.aload_n 0, 1) := by decide +kernel
theorem dX6_each_120 : decode cX6_each 120 = .ok (.iload_n 2, 1) := by decide +kernel
theorem dX6_each_121 : decode cX6_each 121 = .ok (.iload 4, 2) := by decide +kernel
theorem dX6_each_123 : decode cX6_each 123 = .ok (.iload 5, 2) := by decide +kernel
theorem dX6_each_125 : decode cX6_each 125 = .ok (.invokevirtual 85, 3) := by decide +kernel
theorem dX6_each_128 : decode cX6_each 128 = .ok (.lmul, 1) := by decide +kernel
theorem dX6_each_129 : decode cX6_each 129 = .ok (.invokevirtual 93, 3) := by decide +kernel
theorem dX6_each_132 : decode cX6_each 132 = .ok (.iinc 5 1, 3) := by decide +kernel
theorem dX6_each_135 : decode cX6_each 135 = .ok (.goto (-65), 3) := by decide +kernel
theorem dX6_each_138 : decode cX6_each 138 = .ok (.iinc 4 1, 3) := by decide +kernel
theorem dX6_each_141 : decode cX6_each 141 = .ok (.goto (-85), 3) := by decide +kernel
theorem dX6_each_144 : decode cX6_each 144 = .ok (.aload_n 0, 1) := by decide +kernel
theorem dX6_each_145 : decode cX6_each 145 = .ok (.iload_n 3, 1) := by decide +kernel
theorem dX6_each_146 : decode cX6_each 146 = .ok (.invokevirtual 68, 3) := by decide +kernel
theorem dX6_each_149 : decode cX6_each 149 = .ok (.ireturn, 1) := by decide +kernel
theorem dX6_mask_0 : decode cX6_mask 0 = .ok (.iload_n 3, 1) := by decide +kernel
theorem dX6_mask_1 : decode cX6_mask 1 = .ok (.invokestatic 45, 3) := by decide +kernel
theorem dX6_mask_4 : decode cX6_mask 4 = .ok (.ifCond .eq 19, 3) := by decide +kernel
theorem dX6_mask_7 : decode cX6_mask 7 = .ok (.aload_n 0, 1) := by decide +kernel
theorem dX6_mask_8 : decode cX6_mask 8 = .ok (.iload_n 1, 1) := by decide +kernel
theorem dX6_mask_9 : decode cX6_mask 9 = .ok (.invokevirtual 78, 3) := by decide +kernel
theorem dX6_mask_12 : decode cX6_mask 12 = .ok (.ifCond .eq 11, 3) := by decide +kernel
theorem dX6_mask_15 : decode cX6_mask 15 = .ok (.aload_n 0, 1) := by decide +kernel
theorem dX6_mask_16 : decode cX6_mask 16 = .ok (.iload_n 2, 1) := by decide +kernel
theorem dX6_mask_17 : decode cX6_mask 17 = .ok (.invokevirtual 78, 3) := by decide +kernel
theorem dX6_mask_20 : decode cX6_mask 20 = .ok (.ifCond .ne 5, 3) := by decide +kernel
theorem dX6_mask_23 : decode cX6_mask 23 = .ok (.iconst (-1), 1) := by decide +kernel
theorem dX6_mask_24 : decode cX6_mask 24 = .ok (.ireturn, 1) := by decide +kernel
theorem dX6_mask_25 : decode cX6_mask 25 = .ok (.aload_n 0, 1) := by decide +kernel
theorem dX6_mask_26 : decode cX6_mask 26 = .ok (.iload_n 1, 1) := by decide +kernel
theorem dX6_mask_27 : decode cX6_mask 27 = .ok (.iload_n 2, 1) := by decide +kernel
theorem dX6_mask_28 : decode cX6_mask 28 = .ok (.invokevirtual 89, 3) := by decide +kernel
theorem dX6_mask_31 : decode cX6_mask 31 = .ok (.ifCond .ne 6, 3) := by decide +kernel
theorem dX6_mask_34 : decode cX6_mask 34 = .ok (.bipush (-3), 2) := by decide +kernel
theorem dX6_mask_36 : decode cX6_mask 36 = .ok (.ireturn, 1) := by decide +kernel
theorem dX6_mask_37 : decode cX6_mask 37 = .ok (.aload_n 0, 1) := by decide +kernel
theorem dX6_mask_38 : decode cX6_mask 38 = .ok (.aload_n 0, 1) := by decide +kernel
theorem dX6_mask_39 : decode cX6_mask 39 = .ok (.getfield 13, 3) := by decide +kernel
theorem dX6_mask_42 : decode cX6_mask 42 = .ok (.iload_n 1, 1) := by decide +kernel
theorem dX6_mask_43 : decode cX6_mask 43 = .ok (.iaload, 1) := by decide +kernel
theorem dX6_mask_44 : decode cX6_mask 44 = .ok (.aload_n 0, 1) := by decide +kernel
theorem dX6_mask_45 : decode cX6_mask 45 = .ok (.getfield 17, 3) := by decide +kernel
theorem dX6_mask_48 : decode cX6_mask 48 = .ok (.iload_n 1, 1) := by decide +kernel
theorem dX6_mask_49 : decode cX6_mask 49 = .ok (.iaload, 1) := by decide +kernel
theorem dX6_mask_50 : decode cX6_mask 50 = .ok (.invokevirtual 64, 3) := by decide +kernel
theorem dX6_mask_53 : decode cX6_mask 53 = .ok (.iconst 0, 1) := by decide +kernel
theorem dX6_mask_54 : decode cX6_mask 54 = .ok (.istore 5, 2) := by decide +kernel
theorem dX6_mask_56 : decode cX6_mask 56 = .ok (.iload 5, 2) := by decide +kernel
theorem dX6_mask_58 : decode cX6_mask 58 = .ok (.aload_n 0, 1) := by decide +kernel
theorem dX6_mask_59 : decode cX6_mask 59 = .ok (.getfield 13, 3) := by decide +kernel
theorem dX6_mask_62 : decode cX6_mask 62 = .ok (.iload_n 1, 1) := by decide +kernel
theorem dX6_mask_63 : decode cX6_mask 63 = .ok (.iaload, 1) := by decide +kernel
theorem dX6_mask_64 : decode cX6_mask 64 = .ok (.if_icmp .ge 72, 3) := by decide +kernel
theorem dX6_mask_67 : decode cX6_mask 67 = .ok (.iconst 0, 1) := by decide +kernel
theorem dX6_mask_68 : decode cX6_mask 68 = .ok (.istore 6, 2) := by decide +kernel
theorem dX6_mask_70 : decode cX6_mask 70 = .ok (.iload 6, 2) := by decide +kernel
theorem dX6_mask_72 : decode cX6_mask 72 = .ok (.aload_n 0, 1) := by decide +kernel
theorem dX6_mask_73 : decode cX6_mask 73 = .ok (.getfield 17, 3) := by decide +kernel
theorem dX6_mask_76 : decode cX6_mask 76 = .ok (.iload_n 1, 1) := by decide +kernel
theorem dX6_mask_77 : decode cX6_mask 77 = .ok (.iaload, 1) := by decide +kernel
theorem dX6_mask_78 : decode cX6_mask 78 = .ok (.if_icmp .ge 52, 3) := by decide +kernel
theorem dX6_mask_81 : decode cX6_mask 81 = .ok (.aload_n 0, 1) := by decide +kernel
theorem dX6_mask_82 : decode cX6_mask 82 = .ok (.iload_n 1, 1) := by decide +kernel
theorem dX6_mask_83 : decode cX6_mask 83 = .ok (.iload 5, 2) := by decide +kernel
theorem dX6_mask_85 : decode cX6_mask 85 = .ok (.iload 6, 2) := by decide +kernel
theorem dX6_mask_87 : decode cX6_mask 87 = .ok (.invokevirtual 61, 3) := by decide +kernel
theorem dX6_mask_90 : decode cX6_mask 90 = .ok (.ifCond .eq 34, 3) := by decide +kernel
theorem dX6_mask_93 : decode cX6_mask 93 = .ok (.aload_n 0, 1) := by decide +kernel
theorem dX6_mask_94 : decode cX6_mask 94 = .ok (.iload_n 2, 1) := by decide +kernel
theorem dX6_mask_95 : decode cX6_mask 95 = .ok (.iload 5, 2) := by decide +kernel
theorem dX6_mask_97 : decode cX6_mask 97 = .ok (.iload 6, 2) := by decide +kernel
theorem dX6_mask_99 : decode cX6_mask 99 = .ok (.invokevirtual 61, 3) := by decide +kernel
theorem dX6_mask_102 : decode cX6_mask 102 = .ok (.iload 4, 2) := by decide +kernel
theorem dX6_mask_104 : decode cX6_mask 104 = .ok (.if_icmp .ne 20, 3) := by decide +kernel
theorem dX6_mask_107 : decode cX6_mask 107 = .ok (.aload_n 0, 1) := by decide +kernel
theorem dX6_mask_108 : decode cX6_mask 108 = .ok (.iload 5, 2) := by decide +kernel
theorem dX6_mask_110 : decode cX6_mask 110 = .ok (.iload 6, 2) := by decide +kernel
theorem dX6_mask_112 : decode cX6_mask 112 = .ok (.aload_n 0, 1) := by decide +kernel
theorem dX6_mask_113 : decode cX6_mask 113 = .ok (.iload_n 1, 1) := by decide +kernel
theorem dX6_mask_114 : decode cX6_mask 114 = .ok (.iload 5, 2) := by decide +kernel
theorem dX6_mask_116 : decode cX6_mask 116 = .ok (.iload 6, 2) := by decide +kernel
theorem dX6_mask_118 : decode cX6_mask 118 = .ok (.invokevirtual 85, 3) := by decide +kernel
theorem dX6_mask_121 : decode cX6_mask 121 = .ok (.invokevirtual 93, 3) := by decide +kernel
theorem dX6_mask_124 : decode cX6_mask 124 = .ok (.iinc 6 1, 3) := by decide +kernel
theorem dX6_mask_127 : decode cX6_mask 127 = .ok (.goto (-57), 3) := by decide +kernel
theorem dX6_mask_130 : decode cX6_mask 130 = .ok (.iinc 5 1, 3) := by decide +kernel
theorem dX6_mask_133 : decode cX6_mask 133 = .ok (.goto (-77), 3) := by decide +kernel
theorem dX6_mask_136 : decode cX6_mask 136 = .ok (.aload_n 0, 1) := by decide +kernel
theorem dX6_mask_137 : decode cX6_mask 137 = .ok (.iload_n 3, 1) := by decide +kernel
theorem dX6_mask_138 : decode cX6_mask 138 = .ok (.invokevirtual 68, 3) := by decide +kernel
theorem dX6_mask_141 : decode cX6_mask 141 = .ok (.ireturn, 1) := by decide +kernel
theorem dX6_turn_0 : decode cX6_turn 0 = .ok (.iload_n 2, 1) := by decide +kernel
theorem dX6_turn_1 : decode cX6_turn 1 = .ok (.invokestatic 45, 3) := by decide +kernel
theorem dX6_turn_4 : decode cX6_turn 4 = .ok (.ifCond .eq 11, 3) := by decide +kernel
theorem dX6_turn_7 : decode cX6_turn 7 = .ok (.aload_n 0, 1) := by decide +kernel
theorem dX6_turn_8 : decode cX6_turn 8 = .ok (.iload_n 1, 1) := by decide +kernel
theorem dX6_turn_9 : decode cX6_turn 9 = .ok (.invokevirtual 78, 3) := by decide +kernel
theorem dX6_turn_12 : decode cX6_turn 12 = .ok (.ifCond .ne 5, 3) := by decide +kernel
theorem dX6_turn_15 : decode cX6_turn 15 = .ok (.iconst (-1), 1) := by decide +kernel
theorem dX6_turn_16 : decode cX6_turn 16 = .ok (.ireturn, 1) := by decide +kernel
theorem dX6_turn_17 : decode cX6_turn 17 = .ok (.aload_n 0, 1) := by decide +kernel
theorem dX6_turn_18 : decode cX6_turn 18 = .ok (.aload_n 0, 1) := by decide +kernel
theorem dX6_turn_19 : decode cX6_turn 19 = .ok (.getfield 17, 3) := by decide +kernel
theorem dX6_turn_22 : decode cX6_turn 22 = .ok (.iload_n 1, 1) := by decide +kernel
theorem dX6_turn_23 : decode cX6_turn 23 = .ok (.iaload, 1) := by decide +kernel
theorem dX6_turn_24 : decode cX6_turn 24 = .ok (.aload_n 0, 1) := by decide +kernel
theorem dX6_turn_25 : decode cX6_turn 25 = .ok (.getfield 13, 3) := by decide +kernel
theorem dX6_turn_28 : decode cX6_turn 28 = .ok (.iload_n 1, 1) := by decide +kernel
theorem dX6_turn_29 : decode cX6_turn 29 = .ok (.iaload, 1) := by decide +kernel
theorem dX6_turn_30 : decode cX6_turn 30 = .ok (.invokevirtual 64, 3) := by decide +kernel
theorem dX6_turn_33 : decode cX6_turn 33 = .ok (.iconst 0, 1) := by decide +kernel
theorem dX6_turn_34 : decode cX6_turn 34 = .ok (.istore_n 3, 1) := by decide +kernel
theorem dX6_turn_35 : decode cX6_turn 35 = .ok (.iload_n 3, 1) := by decide +kernel
theorem dX6_turn_36 : decode cX6_turn 36 = .ok (.aload_n 0, 1) := by decide +kernel
theorem dX6_turn_37 : decode cX6_turn 37 = .ok (.getfield 13, 3) := by decide +kernel
theorem dX6_turn_40 : decode cX6_turn 40 = .ok (.iload_n 1, 1) := by decide +kernel
theorem dX6_turn_41 : decode cX6_turn 41 = .ok (.iaload, 1) := by decide +kernel
theorem dX6_turn_42 : decode cX6_turn 42 = .ok (.if_icmp .ge 55, 3) := by decide +kernel
theorem dX6_turn_45 : decode cX6_turn 45 = .ok (.iconst 0, 1) := by decide +kernel
theorem dX6_turn_46 : decode cX6_turn 46 = .ok (.istore 4, 2) := by decide +kernel
theorem dX6_turn_48 : decode cX6_turn 48 = .ok (.iload 4, 2) := by decide +kernel
theorem dX6_turn_50 : decode cX6_turn 50 = .ok (.aload_n 0, 1) := by decide +kernel
theorem dX6_turn_51 : decode cX6_turn 51 = .ok (.getfield 17, 3) := by decide +kernel
theorem dX6_turn_54 : decode cX6_turn 54 = .ok (.iload_n 1, 1) := by decide +kernel
