theorem dX7_sail_18 : decode cX7_sail 18 = .ok (.getfield 107, 3) := by decide +kernel
theorem dX7_sail_21 : decode cX7_sail 21 = .ok (.iload_n 1, 1) := by decide +kernel
theorem dX7_sail_22 : decode cX7_sail 22 = .ok (.iadd, 1) := by decide +kernel
theorem dX7_sail_23 : decode cX7_sail 23 = .ok (.sipush 9999, 3) := by decide +kernel
theorem dX7_sail_26 : decode cX7_sail 26 = .ok (.if_icmp .le 6, 3) := by decide +kernel
theorem dX7_sail_29 : decode cX7_sail 29 = .ok (.bipush (-3), 2) := by decide +kernel
theorem dX7_sail_31 : decode cX7_sail 31 = .ok (.ireturn, 1) := by decide +kernel
theorem dX7_sail_32 : decode cX7_sail 32 = .ok (.aload_n 0, 1) := by decide +kernel
theorem dX7_sail_33 : decode cX7_sail 33 = .ok (.invokevirtual 73, 3) := by decide +kernel
theorem dX7_sail_36 : decode cX7_sail 36 = .ok (.iconst 0, 1) := by decide +kernel
theorem dX7_sail_37 : decode cX7_sail 37 = .ok (.istore_n 2, 1) := by decide +kernel
theorem dX7_sail_38 : decode cX7_sail 38 = .ok (.iconst 0, 1) := by decide +kernel
theorem dX7_sail_39 : decode cX7_sail 39 = .ok (.istore_n 3, 1) := by decide +kernel
theorem dX7_sail_40 : decode cX7_sail 40 = .ok (.iload_n 3, 1) := by decide +kernel
theorem dX7_sail_41 : decode cX7_sail 41 = .ok (.iload_n 1, 1) := by decide +kernel
theorem dX7_sail_42 : decode cX7_sail 42 = .ok (.if_icmp .ge 42, 3) := by decide +kernel
theorem dX7_sail_45 : decode cX7_sail 45 = .ok (.aload_n 0, 1) := by decide +kernel
theorem dX7_sail_46 : decode cX7_sail 46 = .ok (.getfield 51, 3) := by decide +kernel
theorem dX7_sail_49 : decode cX7_sail 49 = .ok (.aload_n 0, 1) := by decide +kernel
theorem dX7_sail_50 : decode cX7_sail 50 = .ok (.getfield 12, 3) := by decide +kernel
theorem dX7_sail_53 : decode cX7_sail 53 = .ok (.invokevirtual 110, 3) := by decide +kernel
theorem dX7_sail_56 : decode cX7_sail 56 = .ok (.aload_n 0, 1) := by decide +kernel
theorem dX7_sail_57 : decode cX7_sail 57 = .ok (.getfield 12, 3) := by decide +kernel
theorem dX7_sail_60 : decode cX7_sail 60 = .ok (.aload_n 0, 1) := by decide +kernel
theorem dX7_sail_61 : decode cX7_sail 61 = .ok (.getfield 51, 3) := by decide +kernel
theorem dX7_sail_64 : decode cX7_sail 64 = .ok (.invokevirtual 113, 3) := by decide +kernel
theorem dX7_sail_67 : decode cX7_sail 67 = .ok (.iload_n 2, 1) := by decide +kernel
theorem dX7_sail_68 : decode cX7_sail 68 = .ok (.aload_n 0, 1) := by decide +kernel
theorem dX7_sail_69 : decode cX7_sail 69 = .ok (.getfield 51, 3) := by decide +kernel
theorem dX7_sail_72 : decode cX7_sail 72 = .ok (.iconst 5, 1) := by decide +kernel
theorem dX7_sail_73 : decode cX7_sail 73 = .ok (.invokevirtual 117, 3) := by decide +kernel
theorem dX7_sail_76 : decode cX7_sail 76 = .ok (.iadd, 1) := by decide +kernel
theorem dX7_sail_77 : decode cX7_sail 77 = .ok (.istore_n 2, 1) := by decide +kernel
theorem dX7_sail_78 : decode cX7_sail 78 = .ok (.iinc 3 1, 3) := by decide +kernel
theorem dX7_sail_81 : decode cX7_sail 81 = .ok (.goto (-41), 3) := by decide +kernel
theorem dX7_sail_84 : decode cX7_sail 84 = .ok (.iload_n 2, 1) := by decide +kernel
theorem dX7_sail_85 : decode cX7_sail 85 = .ok (.ireturn, 1) := by decide +kernel
theorem dX7_undo_0 : decode cX7_undo 0 = .ok (.aload_n 0, 1) := by decide +kernel
theorem dX7_undo_1 : decode cX7_undo 1 = .ok (.getfield 27, 3) := by decide +kernel
theorem dX7_undo_4 : decode cX7_undo 4 = .ok (.iconst 1, 1) := by decide +kernel
theorem dX7_undo_5 : decode cX7_undo 5 = .ok (.isub, 1) := by decide +kernel
theorem dX7_undo_6 : decode cX7_undo 6 = .ok (.istore_n 1, 1) := by decide +kernel
theorem dX7_undo_7 : decode cX7_undo 7 = .ok (.iload_n 1, 1) := by decide +kernel
theorem dX7_undo_8 : decode cX7_undo 8 = .ok (.ifCond .lt 12, 3) := by decide +kernel
theorem dX7_undo_11 : decode cX7_undo 11 = .ok (.iload_n 1, 1) := by decide +kernel
theorem dX7_undo_12 : decode cX7_undo 12 = .ok (.aload_n 0, 1) := by decide +kernel
theorem dX7_undo_13 : decode cX7_undo 13 = .ok (.getfield 23, 3) := by decide +kernel
theorem dX7_undo_16 : decode cX7_undo 16 = .ok (.arraylength, 1) := by decide +kernel
theorem dX7_undo_17 : decode cX7_undo 17 = .ok (.if_icmp .lt 6, 3) := by decide +kernel
theorem dX7_undo_20 : decode cX7_undo 20 = .ok (.bipush (-5), 2) := by decide +kernel
theorem dX7_undo_22 : decode cX7_undo 22 = .ok (.ireturn, 1) := by decide +kernel
theorem dX7_undo_23 : decode cX7_undo 23 = .ok (.aload_n 0, 1) := by decide +kernel
theorem dX7_undo_24 : decode cX7_undo 24 = .ok (.getfield 12, 3) := by decide +kernel
theorem dX7_undo_27 : decode cX7_undo 27 = .ok (.aload_n 0, 1) := by decide +kernel
theorem dX7_undo_28 : decode cX7_undo 28 = .ok (.getfield 23, 3) := by decide +kernel
theorem dX7_undo_31 : decode cX7_undo 31 = .ok (.iload_n 1, 1) := by decide +kernel
theorem dX7_undo_32 : decode cX7_undo 32 = .ok (.aaload, 1) := by decide +kernel
theorem dX7_undo_33 : decode cX7_undo 33 = .ok (.invokevirtual 80, 3) := by decide +kernel
theorem dX7_undo_36 : decode cX7_undo 36 = .ok (.aload_n 0, 1) := by decide +kernel
theorem dX7_undo_37 : decode cX7_undo 37 = .ok (.iload_n 1, 1) := by decide +kernel
theorem dX7_undo_38 : decode cX7_undo 38 = .ok (.putfield 27, 3) := by decide +kernel
theorem dX7_undo_41 : decode cX7_undo 41 = .ok (.aload_n 0, 1) := by decide +kernel
theorem dX7_undo_42 : decode cX7_undo 42 = .ok (.getfield 27, 3) := by decide +kernel
theorem dX7_undo_45 : decode cX7_undo 45 = .ok (.ireturn, 1) := by decide +kernel
theorem dX7_captainOf_0 : decode cX7_captainOf 0 = .ok (.iload_n 1, 1) := by decide +kernel
theorem dX7_captainOf_1 : decode cX7_captainOf 1 = .ok (.invokestatic 55, 3) := by decide +kernel
theorem dX7_captainOf_4 : decode cX7_captainOf 4 = .ok (.ifCond .ne 5, 3) := by decide +kernel
theorem dX7_captainOf_7 : decode cX7_captainOf 7 = .ok (.iconst (-1), 1) := by decide +kernel
theorem dX7_captainOf_8 : decode cX7_captainOf 8 = .ok (.ireturn, 1) := by decide +kernel
theorem dX7_captainOf_9 : decode cX7_captainOf 9 = .ok (.iload_n 2, 1) := by decide +kernel
theorem dX7_captainOf_10 : decode cX7_captainOf 10 = .ok (.ifCond .lt 9, 3) := by decide +kernel
theorem dX7_captainOf_13 : decode cX7_captainOf 13 = .ok (.iload_n 2, 1) := by decide +kernel
theorem dX7_captainOf_14 : decode cX7_captainOf 14 = .ok (.bipush 10, 2) := by decide +kernel
theorem dX7_captainOf_16 : decode cX7_captainOf 16 = .ok (.if_icmp .le 6, 3) := by decide +kernel
theorem dX7_captainOf_19 : decode cX7_captainOf 19 = .ok (.bipush (-2), 2) := by decide +kernel
theorem dX7_captainOf_21 : decode cX7_captainOf 21 = .ok (.ireturn, 1) := by decide +kernel
theorem dX7_captainOf_22 : decode cX7_captainOf 22 = .ok (.iload_n 2, 1) := by decide +kernel
theorem dX7_captainOf_23 : decode cX7_captainOf 23 = .ok (.iconst 4, 1) := by decide +kernel
theorem dX7_captainOf_24 : decode cX7_captainOf 24 = .ok (.if_icmp .ne 14, 3) := by decide +kernel
theorem dX7_captainOf_27 : decode cX7_captainOf 27 = .ok (.aload_n 0, 1) := by decide +kernel
theorem dX7_captainOf_28 : decode cX7_captainOf 28 = .ok (.iload_n 1, 1) := by decide +kernel
theorem dX7_captainOf_29 : decode cX7_captainOf 29 = .ok (.invokevirtual 127, 3) := by decide +kernel
theorem dX7_captainOf_32 : decode cX7_captainOf 32 = .ok (.getfield 131, 3) := by decide +kernel
theorem dX7_captainOf_35 : decode cX7_captainOf 35 = .ok (.goto 16, 3) := by decide +kernel
theorem dX7_captainOf_38 : decode cX7_captainOf 38 = .ok (.aload_n 0, 1) := by decide +kernel
theorem dX7_captainOf_39 : decode cX7_captainOf 39 = .ok (.getfield 12, 3) := by decide +kernel
theorem dX7_captainOf_42 : decode cX7_captainOf 42 = .ok (.getfield 63, 3) := by decide +kernel
theorem dX7_captainOf_45 : decode cX7_captainOf 45 = .ok (.iload_n 1, 1) := by decide +kernel
theorem dX7_captainOf_46 : decode cX7_captainOf 46 = .ok (.aaload, 1) := by decide +kernel
theorem dX7_captainOf_47 : decode cX7_captainOf 47 = .ok (.iload_n 2, 1) := by decide +kernel
theorem dX7_captainOf_48 : decode cX7_captainOf 48 = .ok (.invokevirtual 67, 3) := by decide +kernel
theorem dX7_captainOf_51 : decode cX7_captainOf 51 = .ok (.ireturn, 1) := by decide +kernel
theorem dX7_printed_0 : decode cX7_printed 0 = .ok (.iload_n 1, 1) := by decide +kernel
theorem dX7_printed_1 : decode cX7_printed 1 = .ok (.invokestatic 55, 3) := by decide +kernel
theorem dX7_printed_4 : decode cX7_printed 4 = .ok (.ifCond .ne 5, 3) := by decide +kernel
theorem dX7_printed_7 : decode cX7_printed 7 = .ok (.iconst (-1), 1) := by decide +kernel
theorem dX7_printed_8 : decode cX7_printed 8 = .ok (.ireturn, 1) := by decide +kernel
theorem dX7_printed_9 : decode cX7_printed 9 = .ok (.aload_n 0, 1) := by decide +kernel
theorem dX7_printed_10 : decode cX7_printed 10 = .ok (.iload_n 1, 1) := by decide +kernel
theorem dX7_printed_11 : decode cX7_printed 11 = .ok (.invokevirtual 127, 3) := by decide +kernel
theorem dX7_printed_14 : decode cX7_printed 14 = .ok (.astore 4, 2) := by decide +kernel
theorem dX7_printed_16 : decode cX7_printed 16 = .ok (.aload 4, 2) := by decide +kernel
theorem dX7_printed_18 : decode cX7_printed 18 = .ok (.iload_n 2, 1) := by decide +kernel
theorem dX7_printed_19 : decode cX7_printed 19 = .ok (.invokevirtual 136, 3) := by decide +kernel
theorem dX7_printed_22 : decode cX7_printed 22 = .ok (.ifCond .ne 5, 3) := by decide +kernel
theorem dX7_printed_25 : decode cX7_printed 25 = .ok (.iconst (-1), 1) := by decide +kernel
theorem dX7_printed_26 : decode cX7_printed 26 = .ok (.ireturn, 1) := by decide +kernel
theorem dX7_printed_27 : decode cX7_printed 27 = .ok (.iload_n 3, 1) := by decide +kernel
theorem dX7_printed_28 : decode cX7_printed 28 = .ok (.lookupswitch 42 #[(0, 28), (1, 35)], 28) := by decide +kernel
theorem dX7_printed_56 : decode cX7_printed 56 = .ok (.aload 4, 2) := by decide +kernel
theorem dX7_printed_58 : decode cX7_printed 58 = .ok (.iload_n 2, 1) := by decide +kernel
theorem dX7_printed_59 : decode cX7_printed 59 = .ok (.invokevirtual 139, 3) := by decide +kernel
theorem dX7_printed_62 : decode cX7_printed 62 = .ok (.ireturn, 1) := by decide +kernel
theorem dX7_printed_63 : decode cX7_printed 63 = .ok (.aload 4, 2) := by decide +kernel
theorem dX7_printed_65 : decode cX7_printed 65 = .ok (.iload_n 2, 1) := by decide +kernel
theorem dX7_printed_66 : decode cX7_printed 66 = .ok (.invokevirtual 142, 3) := by decide +kernel
theorem dX7_printed_69 : decode cX7_printed 69 = .ok (.ireturn, 1) := by decide +kernel
theorem dX7_printed_70 : decode cX7_printed 70 = .ok (.bipush (-2), 2) := by decide +kernel
theorem dX7_printed_72 : decode cX7_printed 72 = .ok (.ireturn, 1) := by decide +kernel
theorem dX7_level_0 : decode cX7_level 0 = .ok (.iload_n 1, 1) := by decide +kernel
theorem dX7_level_1 : decode cX7_level 1 = .ok (.invokestatic 55, 3) := by decide +kernel
theorem dX7_level_4 : decode cX7_level 4 = .ok (.ifCond .ne 8, 3) := by decide +kernel
theorem dX7_level_7 : decode cX7_level 7 = .ok (.iload_n 1, 1) := by decide +kernel
theorem dX7_level_8 : decode cX7_level 8 = .ok (.iconst 3, 1) := by decide +kernel
theorem dX7_level_9 : decode cX7_level 9 = .ok (.if_icmp .ne 7, 3) := by decide +kernel
theorem dX7_level_12 : decode cX7_level 12 = .ok (.iconst 1, 1) := by decide +kernel
theorem dX7_level_13 : decode cX7_level 13 = .ok (.goto 4, 3) := by decide +kernel
theorem dX7_level_16 : decode cX7_level 16 = .ok (.iconst 0, 1) := by decide +kernel
theorem dX7_level_17 : decode cX7_level 17 = .ok (.istore 4, 2) := by decide +kernel
theorem dX7_level_19 : decode cX7_level 19 = .ok (.iload 4, 2) := by decide +kernel
theorem dX7_level_21 : decode cX7_level 21 = .ok (.ifCond .eq 13, 3) := by decide +kernel
theorem dX7_level_24 : decode cX7_level 24 = .ok (.iload_n 2, 1) := by decide +kernel
theorem dX7_level_25 : decode cX7_level 25 = .ok (.ifCond .lt 9, 3) := by decide +kernel
theorem dX7_level_28 : decode cX7_level 28 = .ok (.iload_n 2, 1) := by decide +kernel
theorem dX7_level_29 : decode cX7_level 29 = .ok (.bipush 24, 2) := by decide +kernel
theorem dX7_level_31 : decode cX7_level 31 = .ok (.if_icmp .lt 5, 3) := by decide +kernel
theorem dX7_level_34 : decode cX7_level 34 = .ok (.iconst (-1), 1) := by decide +kernel
theorem dX7_level_35 : decode cX7_level 35 = .ok (.ireturn, 1) := by decide +kernel
theorem dX7_level_36 : decode cX7_level 36 = .ok (.iload_n 1, 1) := by decide +kernel
theorem dX7_level_37 : decode cX7_level 37 = .ok (.invokestatic 55, 3) := by decide +kernel
theorem dX7_level_40 : decode cX7_level 40 = .ok (.ifCond .eq 18, 3) := by decide +kernel
theorem dX7_level_43 : decode cX7_level 43 = .ok (.aload_n 0, 1) := by decide +kernel
theorem dX7_level_44 : decode cX7_level 44 = .ok (.getfield 12, 3) := by decide +kernel
theorem dX7_level_47 : decode cX7_level 47 = .ok (.getfield 63, 3) := by decide +kernel
theorem dX7_level_50 : decode cX7_level 50 = .ok (.iload_n 1, 1) := by decide +kernel
theorem dX7_level_51 : decode cX7_level 51 = .ok (.aaload, 1) := by decide +kernel
theorem dX7_level_52 : decode cX7_level 52 = .ok (.getfield 145, 3) := by decide +kernel
theorem dX7_level_55 : decode cX7_level 55 = .ok (.goto 10, 3) := by decide +kernel
theorem dX7_level_58 : decode cX7_level 58 = .ok (.aload_n 0, 1) := by decide +kernel
theorem dX7_level_59 : decode cX7_level 59 = .ok (.getfield 12, 3) := by decide +kernel
theorem dX7_level_62 : decode cX7_level 62 = .ok (.getfield 91, 3) := by decide +kernel
theorem dX7_level_65 : decode cX7_level 65 = .ok (.istore 5, 2) := by decide +kernel
theorem dX7_level_67 : decode cX7_level 67 = .ok (.iload_n 3, 1) := by decide +kernel
theorem dX7_level_68 : decode cX7_level 68 = .ok (.lookupswitch 42 #[(0, 28), (1, 35)], 28) := by decide +kernel
theorem dX7_level_96 : decode cX7_level 96 = .ok (.iload 5, 2) := by decide +kernel
theorem dX7_level_98 : decode cX7_level 98 = .ok (.iload_n 2, 1) := by decide +kernel
theorem dX7_level_99 : decode cX7_level 99 = .ok (.invokestatic 148, 3) := by decide +kernel
theorem dX7_level_102 : decode cX7_level 102 = .ok (.ireturn, 1) := by decide +kernel
theorem dX7_level_103 : decode cX7_level 103 = .ok (.iload 5, 2) := by decide +kernel
theorem dX7_level_105 : decode cX7_level 105 = .ok (.iload_n 2, 1) := by decide +kernel
theorem dX7_level_106 : decode cX7_level 106 = .ok (.invokestatic 152, 3) := by decide +kernel
theorem dX7_level_109 : decode cX7_level 109 = .ok (.ireturn, 1) := by decide +kernel
theorem dX7_level_110 : decode cX7_level 110 = .ok (.bipush (-2), 2) := by decide +kernel
theorem dX7_level_112 : decode cX7_level 112 = .ok (.ireturn, 1) := by decide +kernel
theorem dX7_uses_0 : decode cX7_uses 0 = .ok (.iload_n 1, 1) := by decide +kernel
theorem dX7_uses_1 : decode cX7_uses 1 = .ok (.ifCond .lt 18, 3) := by decide +kernel
theorem dX7_uses_4 : decode cX7_uses 4 = .ok (.iload_n 1, 1) := by decide +kernel
theorem dX7_uses_5 : decode cX7_uses 5 = .ok (.iconst 2, 1) := by decide +kernel
theorem dX7_uses_6 : decode cX7_uses 6 = .ok (.if_icmp .ge 13, 3) := by decide +kernel
theorem dX7_uses_9 : decode cX7_uses 9 = .ok (.iload_n 2, 1) := by decide +kernel
theorem dX7_uses_10 : decode cX7_uses 10 = .ok (.ifCond .lt 9, 3) := by decide +kernel
theorem dX7_uses_13 : decode cX7_uses 13 = .ok (.iload_n 2, 1) := by decide +kernel
theorem dX7_uses_14 : decode cX7_uses 14 = .ok (.bipush 24, 2) := by decide +kernel
theorem dX7_uses_16 : decode cX7_uses 16 = .ok (.if_icmp .lt 5, 3) := by decide +kernel
theorem dX7_uses_19 : decode cX7_uses 19 = .ok (.iconst (-1), 1) := by decide +kernel
theorem dX7_uses_20 : decode cX7_uses 20 = .ok (.ireturn, 1) := by decide +kernel
theorem dX7_uses_21 : decode cX7_uses 21 = .ok (.aload_n 0, 1) := by decide +kernel
theorem dX7_uses_22 : decode cX7_uses 22 = .ok (.getfield 44, 3) := by decide +kernel
theorem dX7_uses_25 : decode cX7_uses 25 = .ok (.aload_n 0, 1) := by decide +kernel
theorem dX7_uses_26 : decode cX7_uses 26 = .ok (.getfield 12, 3) := by decide +kernel
theorem dX7_uses_29 : decode cX7_uses 29 = .ok (.invokevirtual 155, 3) := by decide +kernel
theorem dX7_uses_32 : decode cX7_uses 32 = .ok (.aload_n 0, 1) := by decide +kernel
theorem dX7_uses_33 : decode cX7_uses 33 = .ok (.getfield 44, 3) := by decide +kernel
theorem dX7_uses_36 : decode cX7_uses 36 = .ok (.iload_n 2, 1) := by decide +kernel
theorem dX7_uses_37 : decode cX7_uses 37 = .ok (.iload_n 1, 1) := by decide +kernel
theorem dX7_uses_38 : decode cX7_uses 38 = .ok (.invokestatic 158, 3) := by decide +kernel
theorem dX7_uses_41 : decode cX7_uses 41 = .ok (.invokevirtual 161, 3) := by decide +kernel
theorem dX7_uses_44 : decode cX7_uses 44 = .ok (.ireturn, 1) := by decide +kernel
theorem dX7_hours_0 : decode cX7_hours 0 = .ok (.iload_n 1, 1) := by decide +kernel
theorem dX7_hours_1 : decode cX7_hours 1 = .ok (.invokestatic 55, 3) := by decide +kernel
theorem dX7_hours_4 : decode cX7_hours 4 = .ok (.ifCond .ne 5, 3) := by decide +kernel
theorem dX7_hours_7 : decode cX7_hours 7 = .ok (.iconst (-1), 1) := by decide +kernel
theorem dX7_hours_8 : decode cX7_hours 8 = .ok (.ireturn, 1) := by decide +kernel
theorem dX7_hours_9 : decode cX7_hours 9 = .ok (.aload_n 0, 1) := by decide +kernel
theorem dX7_hours_10 : decode cX7_hours 10 = .ok (.getfield 12, 3) := by decide +kernel
theorem dX7_hours_13 : decode cX7_hours 13 = .ok (.getfield 63, 3) := by decide +kernel
theorem dX7_hours_16 : decode cX7_hours 16 = .ok (.iload_n 1, 1) := by decide +kernel
theorem dX7_hours_17 : decode cX7_hours 17 = .ok (.aaload, 1) := by decide +kernel
theorem dX7_hours_18 : decode cX7_hours 18 = .ok (.astore_n 3, 1) := by decide +kernel
theorem dX7_hours_19 : decode cX7_hours 19 = .ok (.aload_n 3, 1) := by decide +kernel
theorem dX7_hours_20 : decode cX7_hours 20 = .ok (.getfield 145, 3) := by decide +kernel
theorem dX7_hours_23 : decode cX7_hours 23 = .ok (.aload_n 3, 1) := by decide +kernel
theorem dX7_hours_24 : decode cX7_hours 24 = .ok (.getfield 167, 3) := by decide +kernel
theorem dX7_hours_27 : decode cX7_hours 27 = .ok (.invokestatic 170, 3) := by decide +kernel
theorem dX7_hours_30 : decode cX7_hours 30 = .ok (.istore 4, 2) := by decide +kernel
theorem dX7_hours_32 : decode cX7_hours 32 = .ok (.aload_n 0, 1) := by decide +kernel
theorem dX7_hours_33 : decode cX7_hours 33 = .ok (.getfield 12, 3) := by decide +kernel
theorem dX7_hours_36 : decode cX7_hours 36 = .ok (.getfield 91, 3) := by decide +kernel
theorem dX7_hours_39 : decode cX7_hours 39 = .ok (.aload_n 3, 1) := by decide +kernel
theorem dX7_hours_40 : decode cX7_hours 40 = .ok (.getfield 167, 3) := by decide +kernel
theorem dX7_hours_43 : decode cX7_hours 43 = .ok (.invokestatic 170, 3) := by decide +kernel
theorem dX7_hours_46 : decode cX7_hours 46 = .ok (.istore 5, 2) := by decide +kernel
theorem dX7_hours_48 : decode cX7_hours 48 = .ok (.iload_n 2, 1) := by decide +kernel
theorem dX7_hours_49 : decode cX7_hours 49 = .ok (.tableswitch 39 0 2 #[27, 30, 33], 27) := by decide +kernel
theorem dX7_hours_76 : decode cX7_hours 76 = .ok (.iload 4, 2) := by decide +kernel
theorem dX7_hours_78 : decode cX7_hours 78 = .ok (.ireturn, 1) := by decide +kernel
theorem dX7_hours_79 : decode cX7_hours 79 = .ok (.iload 5, 2) := by decide +kernel
theorem dX7_hours_81 : decode cX7_hours 81 = .ok (.ireturn, 1) := by decide +kernel
theorem dX7_hours_82 : decode cX7_hours 82 = .ok (.iload 4, 2) := by decide +kernel
theorem dX7_hours_84 : decode cX7_hours 84 = .ok (.iload 5, 2) := by decide +kernel
theorem dX7_hours_86 : decode cX7_hours 86 = .ok (.ixor, 1) := by decide +kernel
theorem dX7_hours_87 : decode cX7_hours 87 = .ok (.ireturn, 1) := by decide +kernel
theorem dX7_hours_88 : decode cX7_hours 88 = .ok (.bipush (-2), 2) := by decide +kernel
theorem dX7_hours_90 : decode cX7_hours 90 = .ok (.ireturn, 1) := by decide +kernel
theorem dX7_count_0 : decode cX7_count 0 = .ok (.iload_n 1, 1) := by decide +kernel
theorem dX7_count_1 : decode cX7_count 1 = .ok (.tableswitch 211 0 13 #[71, 79, 87, 95, 114, 133, 142, 152, 160, 170, 180, 185, 193, 202], 71) := by decide +kernel
theorem dX7_count_72 : decode cX7_count 72 = .ok (.aload_n 0, 1) := by decide +kernel
theorem dX7_count_73 : decode cX7_count 73 = .ok (.getfield 12, 3) := by decide +kernel
theorem dX7_count_76 : decode cX7_count 76 = .ok (.getfield 107, 3) := by decide +kernel
theorem dX7_count_79 : decode cX7_count 79 = .ok (.ireturn, 1) := by decide +kernel
theorem dX7_count_80 : decode cX7_count 80 = .ok (.aload_n 0, 1) := by decide +kernel
theorem dX7_count_81 : decode cX7_count 81 = .ok (.getfield 12, 3) := by decide +kernel
theorem dX7_count_84 : decode cX7_count 84 = .ok (.getfield 91, 3) := by decide +kernel
theorem dX7_count_87 : decode cX7_count 87 = .ok (.ireturn, 1) := by decide +kernel
theorem dX7_count_88 : decode cX7_count 88 = .ok (.aload_n 0, 1) := by decide +kernel
theorem dX7_count_89 : decode cX7_count 89 = .ok (.getfield 12, 3) := by decide +kernel
theorem dX7_count_92 : decode cX7_count 92 = .ok (.getfield 104, 3) := by decide +kernel
theorem dX7_count_95 : decode cX7_count 95 = .ok (.ireturn, 1) := by decide +kernel
theorem dX7_count_96 : decode cX7_count 96 = .ok (.aload_n 0, 1) := by decide +kernel
theorem dX7_count_97 : decode cX7_count 97 = .ok (.getfield 44, 3) := by decide +kernel
theorem dX7_count_100 : decode cX7_count 100 = .ok (.aload_n 0, 1) := by decide +kernel
theorem dX7_count_101 : decode cX7_count 101 = .ok (.getfield 12, 3) := by decide +kernel
theorem dX7_count_104 : decode cX7_count 104 = .ok (.invokevirtual 155, 3) := by decide +kernel
theorem dX7_count_107 : decode cX7_count 107 = .ok (.aload_n 0, 1) := by decide +kernel
theorem dX7_count_108 : decode cX7_count 108 = .ok (.getfield 44, 3) := by decide +kernel
theorem dX7_count_111 : decode cX7_count 111 = .ok (.invokevirtual 173, 3) := by decide +kernel
theorem dX7_count_114 : decode cX7_count 114 = .ok (.ireturn, 1) := by decide +kernel
theorem dX7_count_115 : decode cX7_count 115 = .ok (.aload_n 0, 1) := by decide +kernel
theorem dX7_count_116 : decode cX7_count 116 = .ok (.getfield 44, 3) := by decide +kernel
theorem dX7_count_119 : decode cX7_count 119 = .ok (.aload_n 0, 1) := by decide +kernel
theorem dX7_count_120 : decode cX7_count 120 = .ok (.getfield 12, 3) := by decide +kernel
theorem dX7_count_123 : decode cX7_count 123 = .ok (.invokevirtual 155, 3) := by decide +kernel
theorem dX7_count_126 : decode cX7_count 126 = .ok (.aload_n 0, 1) := by decide +kernel
theorem dX7_count_127 : decode cX7_count 127 = .ok (.getfield 44, 3) := by decide +kernel
theorem dX7_count_130 : decode cX7_count 130 = .ok (.invokevirtual 177, 3) := by decide +kernel
theorem dX7_count_133 : decode cX7_count 133 = .ok (.ireturn, 1) := by decide +kernel
theorem dX7_count_134 : decode cX7_count 134 = .ok (.aload_n 0, 1) := by decide +kernel
theorem dX7_count_135 : decode cX7_count 135 = .ok (.getfield 12, 3) := by decide +kernel
theorem dX7_count_138 : decode cX7_count 138 = .ok (.iconst 5, 1) := by decide +kernel
theorem dX7_count_139 : decode cX7_count 139 = .ok (.invokevirtual 179, 3) := by decide +kernel
theorem dX7_count_142 : decode cX7_count 142 = .ok (.ireturn, 1) := by decide +kernel
theorem dX7_count_143 : decode cX7_count 143 = .ok (.aload_n 0, 1) := by decide +kernel
theorem dX7_count_144 : decode cX7_count 144 = .ok (.getfield 12, 3) := by decide +kernel
theorem dX7_count_147 : decode cX7_count 147 = .ok (.bipush 9, 2) := by decide +kernel
theorem dX7_count_149 : decode cX7_count 149 = .ok (.invokevirtual 179, 3) := by decide +kernel
theorem dX7_count_152 : decode cX7_count 152 = .ok (.ireturn, 1) := by decide +kernel
theorem dX7_count_153 : decode cX7_count 153 = .ok (.aload_n 0, 1) := by decide +kernel
theorem dX7_count_154 : decode cX7_count 154 = .ok (.getfield 12, 3) := by decide +kernel
theorem dX7_count_157 : decode cX7_count 157 = .ok (.getfield 180, 3) := by decide +kernel
theorem dX7_count_160 : decode cX7_count 160 = .ok (.ireturn, 1) := by decide +kernel
theorem dX7_count_161 : decode cX7_count 161 = .ok (.aload_n 0, 1) := by decide +kernel
theorem dX7_count_162 : decode cX7_count 162 = .ok (.getfield 12, 3) := by decide +kernel
theorem dX7_count_165 : decode cX7_count 165 = .ok (.bipush 6, 2) := by decide +kernel
theorem dX7_count_167 : decode cX7_count 167 = .ok (.invokevirtual 179, 3) := by decide +kernel
theorem dX7_count_170 : decode cX7_count 170 = .ok (.ireturn, 1) := by decide +kernel
theorem dX7_count_171 : decode cX7_count 171 = .ok (.aload_n 0, 1) := by decide +kernel
theorem dX7_count_172 : decode cX7_count 172 = .ok (.getfield 12, 3) := by decide +kernel
theorem dX7_count_175 : decode cX7_count 175 = .ok (.bipush 7, 2) := by decide +kernel
theorem dX7_count_177 : decode cX7_count 177 = .ok (.invokevirtual 179, 3) := by decide +kernel
theorem dX7_count_180 : decode cX7_count 180 = .ok (.ireturn, 1) := by decide +kernel
theorem dX7_count_181 : decode cX7_count 181 = .ok (.aload_n 0, 1) := by decide +kernel
theorem dX7_count_182 : decode cX7_count 182 = .ok (.getfield 27, 3) := by decide +kernel
theorem dX7_count_185 : decode cX7_count 185 = .ok (.ireturn, 1) := by decide +kernel
theorem dX7_count_186 : decode cX7_count 186 = .ok (.aload_n 0, 1) := by decide +kernel
theorem dX7_count_187 : decode cX7_count 187 = .ok (.getfield 34, 3) := by decide +kernel
theorem dX7_count_190 : decode cX7_count 190 = .ok (.getfield 124, 3) := by decide +kernel
theorem dX7_count_193 : decode cX7_count 193 = .ok (.ireturn, 1) := by decide +kernel
theorem dX7_count_194 : decode cX7_count 194 = .ok (.aload_n 0, 1) := by decide +kernel
theorem dX7_count_195 : decode cX7_count 195 = .ok (.getfield 12, 3) := by decide +kernel
theorem dX7_count_198 : decode cX7_count 198 = .ok (.iconst 0, 1) := by decide +kernel
theorem dX7_count_199 : decode cX7_count 199 = .ok (.invokevirtual 97, 3) := by decide +kernel
theorem dX7_count_202 : decode cX7_count 202 = .ok (.ireturn, 1) := by decide +kernel
theorem dX7_count_203 : decode cX7_count 203 = .ok (.aload_n 0, 1) := by decide +kernel
theorem dX7_count_204 : decode cX7_count 204 = .ok (.getfield 12, 3) := by decide +kernel
theorem dX7_count_207 : decode cX7_count 207 = .ok (.iconst 1, 1) := by decide +kernel
theorem dX7_count_208 : decode cX7_count 208 = .ok (.invokevirtual 97, 3) := by decide +kernel
theorem dX7_count_211 : decode cX7_count 211 = .ok (.ireturn, 1) := by decide +kernel
theorem dX7_count_212 : decode cX7_count 212 = .ok (.bipush (-2), 2) := by decide +kernel
theorem dX7_count_214 : decode cX7_count 214 = .ok (.ireturn, 1) := by decide +kernel
theorem dX7_ifSailed_0 : decode cX7_ifSailed 0 = .ok (.aload_n 0, 1) := by decide +kernel
theorem dX7_ifSailed_1 : decode cX7_ifSailed 1 = .ok (.getfield 51, 3) := by decide +kernel
theorem dX7_ifSailed_4 : decode cX7_ifSailed 4 = .ok (.aload_n 0, 1) := by decide +kernel
theorem dX7_ifSailed_5 : decode cX7_ifSailed 5 = .ok (.getfield 12, 3) := by decide +kernel
theorem dX7_ifSailed_8 : decode cX7_ifSailed 8 = .ok (.invokevirtual 110, 3) := by decide +kernel
theorem dX7_ifSailed_11 : decode cX7_ifSailed 11 = .ok (.iload_n 1, 1) := by decide +kernel
theorem dX7_ifSailed_12 : decode cX7_ifSailed 12 = .ok (.tableswitch 102 0 5 #[40, 49, 59, 69, 79, 87], 40) := by decide +kernel
theorem dX7_ifSailed_52 : decode cX7_ifSailed 52 = .ok (.aload_n 0, 1) := by decide +kernel
theorem dX7_ifSailed_53 : decode cX7_ifSailed 53 = .ok (.getfield 51, 3) := by decide +kernel
theorem dX7_ifSailed_56 : decode cX7_ifSailed 56 = .ok (.iconst 5, 1) := by decide +kernel
theorem dX7_ifSailed_57 : decode cX7_ifSailed 57 = .ok (.invokevirtual 117, 3) := by decide +kernel
theorem dX7_ifSailed_60 : decode cX7_ifSailed 60 = .ok (.ireturn, 1) := by decide +kernel
theorem dX7_ifSailed_61 : decode cX7_ifSailed 61 = .ok (.aload_n 0, 1) := by decide +kernel
theorem dX7_ifSailed_62 : decode cX7_ifSailed 62 = .ok (.getfield 51, 3) := by decide +kernel
theorem dX7_ifSailed_65 : decode cX7_ifSailed 65 = .ok (.bipush 9, 2) := by decide +kernel
theorem dX7_ifSailed_67 : decode cX7_ifSailed 67 = .ok (.invokevirtual 117, 3) := by decide +kernel
theorem dX7_ifSailed_70 : decode cX7_ifSailed 70 = .ok (.ireturn, 1) := by decide +kernel
theorem dX7_ifSailed_71 : decode cX7_ifSailed 71 = .ok (.aload_n 0, 1) := by decide +kernel
theorem dX7_ifSailed_72 : decode cX7_ifSailed 72 = .ok (.getfield 51, 3) := by decide +kernel
theorem dX7_ifSailed_75 : decode cX7_ifSailed 75 = .ok (.bipush 6, 2) := by decide +kernel
theorem dX7_ifSailed_77 : decode cX7_ifSailed 77 = .ok (.invokevirtual 117, 3) := by decide +kernel
theorem dX7_ifSailed_80 : decode cX7_ifSailed 80 = .ok (.ireturn, 1) := by decide +kernel
theorem dX7_ifSailed_81 : decode cX7_ifSailed 81 = .ok (.aload_n 0, 1) := by decide +kernel
theorem dX7_ifSailed_82 : decode cX7_ifSailed 82 = .ok (.getfield 51, 3) := by decide +kernel
theorem dX7_ifSailed_85 : decode cX7_ifSailed 85 = .ok (.bipush 7, 2) := by decide +kernel
theorem dX7_ifSailed_87 : decode cX7_ifSailed 87 = .ok (.invokevirtual 117, 3) := by decide +kernel
theorem dX7_ifSailed_90 : decode cX7_ifSailed 90 = .ok (.ireturn, 1) := by decide +kernel
theorem dX7_ifSailed_91 : decode cX7_ifSailed 91 = .ok (.aload_n 0, 1) := by decide +kernel
theorem dX7_ifSailed_92 : decode cX7_ifSailed 92 = .ok (.getfield 51, 3) := by decide +kernel
theorem dX7_ifSailed_95 : decode cX7_ifSailed 95 = .ok (.getfield 183, 3) := by decide +kernel
theorem dX7_ifSailed_98 : decode cX7_ifSailed 98 = .ok (.ireturn, 1) := by decide +kernel
theorem dX7_ifSailed_99 : decode cX7_ifSailed 99 = .ok (.aload_n 0, 1) := by decide +kernel
theorem dX7_ifSailed_100 : decode cX7_ifSailed 100 = .ok (.getfield 51, 3) := by decide +kernel
theorem dX7_ifSailed_103 : decode cX7_ifSailed 103 = .ok (.aload_n 0, 1) := by decide +kernel
theorem dX7_ifSailed_104 : decode cX7_ifSailed 104 = .ok (.getfield 12, 3) := by decide +kernel
theorem dX7_ifSailed_107 : decode cX7_ifSailed 107 = .ok (.getfield 184, 3) := by decide +kernel
theorem dX7_ifSailed_110 : decode cX7_ifSailed 110 = .ok (.invokevirtual 187, 3) := by decide +kernel
theorem dX7_ifSailed_113 : decode cX7_ifSailed 113 = .ok (.ireturn, 1) := by decide +kernel
theorem dX7_ifSailed_114 : decode cX7_ifSailed 114 = .ok (.bipush (-2), 2) := by decide +kernel
theorem dX7_ifSailed_116 : decode cX7_ifSailed 116 = .ok (.ireturn, 1) := by decide +kernel
theorem dX7_bestHour_0 : decode cX7_bestHour 0 = .ok (.iload_n 1, 1) := by decide +kernel
theorem dX7_bestHour_1 : decode cX7_bestHour 1 = .ok (.invokestatic 55, 3) := by decide +kernel
theorem dX7_bestHour_4 : decode cX7_bestHour 4 = .ok (.ifCond .ne 5, 3) := by decide +kernel
theorem dX7_bestHour_7 : decode cX7_bestHour 7 = .ok (.iconst (-1), 1) := by decide +kernel
theorem dX7_bestHour_8 : decode cX7_bestHour 8 = .ok (.ireturn, 1) := by decide +kernel
theorem dX7_bestHour_9 : decode cX7_bestHour 9 = .ok (.aload_n 0, 1) := by decide +kernel
theorem dX7_bestHour_10 : decode cX7_bestHour 10 = .ok (.getfield 38, 3) := by decide +kernel
theorem dX7_bestHour_13 : decode cX7_bestHour 13 = .ok (.aload_n 0, 1) := by decide +kernel
theorem dX7_bestHour_14 : decode cX7_bestHour 14 = .ok (.getfield 12, 3) := by decide +kernel
theorem dX7_bestHour_17 : decode cX7_bestHour 17 = .ok (.invokevirtual 80, 3) := by decide +kernel
theorem dX7_bestHour_20 : decode cX7_bestHour 20 = .ok (.iconst 0, 1) := by decide +kernel
theorem dX7_bestHour_21 : decode cX7_bestHour 21 = .ok (.istore_n 2, 1) := by decide +kernel
theorem dX7_bestHour_22 : decode cX7_bestHour 22 = .ok (.bipush 49, 2) := by decide +kernel
theorem dX7_bestHour_24 : decode cX7_bestHour 24 = .ok (.istore_n 3, 1) := by decide +kernel
theorem dX7_bestHour_25 : decode cX7_bestHour 25 = .ok (.iconst 0, 1) := by decide +kernel
theorem dX7_bestHour_26 : decode cX7_bestHour 26 = .ok (.istore 4, 2) := by decide +kernel
theorem dX7_bestHour_28 : decode cX7_bestHour 28 = .ok (.iconst 0, 1) := by decide +kernel
theorem dX7_bestHour_29 : decode cX7_bestHour 29 = .ok (.istore 5, 2) := by decide +kernel
theorem dX7_bestHour_31 : decode cX7_bestHour 31 = .ok (.iload 5, 2) := by decide +kernel
theorem dX7_bestHour_33 : decode cX7_bestHour 33 = .ok (.bipush 24, 2) := by decide +kernel
theorem dX7_bestHour_35 : decode cX7_bestHour 35 = .ok (.if_icmp .ge 86, 3) := by decide +kernel
theorem dX7_bestHour_38 : decode cX7_bestHour 38 = .ok (.aload_n 0, 1) := by decide +kernel
theorem dX7_bestHour_39 : decode cX7_bestHour 39 = .ok (.getfield 38, 3) := by decide +kernel
theorem dX7_bestHour_42 : decode cX7_bestHour 42 = .ok (.getfield 63, 3) := by decide +kernel
theorem dX7_bestHour_45 : decode cX7_bestHour 45 = .ok (.iload_n 1, 1) := by decide +kernel
theorem dX7_bestHour_46 : decode cX7_bestHour 46 = .ok (.aaload, 1) := by decide +kernel
theorem dX7_bestHour_47 : decode cX7_bestHour 47 = .ok (.iload 5, 2) := by decide +kernel
theorem dX7_bestHour_49 : decode cX7_bestHour 49 = .ok (.putfield 190, 3) := by decide +kernel
theorem dX7_bestHour_52 : decode cX7_bestHour 52 = .ok (.aload_n 0, 1) := by decide +kernel
theorem dX7_bestHour_53 : decode cX7_bestHour 53 = .ok (.getfield 44, 3) := by decide +kernel
theorem dX7_bestHour_56 : decode cX7_bestHour 56 = .ok (.aload_n 0, 1) := by decide +kernel
theorem dX7_bestHour_57 : decode cX7_bestHour 57 = .ok (.getfield 38, 3) := by decide +kernel
theorem dX7_bestHour_60 : decode cX7_bestHour 60 = .ok (.invokevirtual 155, 3) := by decide +kernel
theorem dX7_bestHour_63 : decode cX7_bestHour 63 = .ok (.aload_n 0, 1) := by decide +kernel
theorem dX7_bestHour_64 : decode cX7_bestHour 64 = .ok (.getfield 44, 3) := by decide +kernel
theorem dX7_bestHour_67 : decode cX7_bestHour 67 = .ok (.invokevirtual 173, 3) := by decide +kernel
theorem dX7_bestHour_70 : decode cX7_bestHour 70 = .ok (.istore 6, 2) := by decide +kernel
theorem dX7_bestHour_72 : decode cX7_bestHour 72 = .ok (.aload_n 0, 1) := by decide +kernel
theorem dX7_bestHour_73 : decode cX7_bestHour 73 = .ok (.getfield 44, 3) := by decide +kernel
theorem dX7_bestHour_76 : decode cX7_bestHour 76 = .ok (.getfield 193, 3) := by decide +kernel
theorem dX7_bestHour_79 : decode cX7_bestHour 79 = .ok (.iload_n 1, 1) := by decide +kernel
theorem dX7_bestHour_80 : decode cX7_bestHour 80 = .ok (.aaload, 1) := by decide +kernel
theorem dX7_bestHour_81 : decode cX7_bestHour 81 = .ok (.getfield 131, 3) := by decide +kernel
theorem dX7_bestHour_84 : decode cX7_bestHour 84 = .ok (.istore 7, 2) := by decide +kernel
theorem dX7_bestHour_86 : decode cX7_bestHour 86 = .ok (.iload 6, 2) := by decide +kernel
theorem dX7_bestHour_88 : decode cX7_bestHour 88 = .ok (.iload_n 3, 1) := by decide +kernel
theorem dX7_bestHour_89 : decode cX7_bestHour 89 = .ok (.if_icmp .lt 16, 3) := by decide +kernel
theorem dX7_bestHour_92 : decode cX7_bestHour 92 = .ok (.iload 6, 2) := by decide +kernel
theorem dX7_bestHour_94 : decode cX7_bestHour 94 = .ok (.iload_n 3, 1) := by decide +kernel
theorem dX7_bestHour_95 : decode cX7_bestHour 95 = .ok (.if_icmp .ne 20, 3) := by decide +kernel
theorem dX7_bestHour_98 : decode cX7_bestHour 98 = .ok (.iload 7, 2) := by decide +kernel
theorem dX7_bestHour_100 : decode cX7_bestHour 100 = .ok (.iload 4, 2) := by decide +kernel
theorem dX7_bestHour_102 : decode cX7_bestHour 102 = .ok (.if_icmp .le 13, 3) := by decide +kernel
theorem dX7_bestHour_105 : decode cX7_bestHour 105 = .ok (.iload 5, 2) := by decide +kernel
theorem dX7_bestHour_107 : decode cX7_bestHour 107 = .ok (.istore_n 2, 1) := by decide +kernel
theorem dX7_bestHour_108 : decode cX7_bestHour 108 = .ok (.iload 6, 2) := by decide +kernel
theorem dX7_bestHour_110 : decode cX7_bestHour 110 = .ok (.istore_n 3, 1) := by decide +kernel
theorem dX7_bestHour_111 : decode cX7_bestHour 111 = .ok (.iload 7, 2) := by decide +kernel
theorem dX7_bestHour_113 : decode cX7_bestHour 113 = .ok (.istore 4, 2) := by decide +kernel
theorem dX7_bestHour_115 : decode cX7_bestHour 115 = .ok (.iinc 5 1, 3) := by decide +kernel
theorem dX7_bestHour_118 : decode cX7_bestHour 118 = .ok (.goto (-87), 3) := by decide +kernel
theorem dX7_bestHour_121 : decode cX7_bestHour 121 = .ok (.iload_n 2, 1) := by decide +kernel
theorem dX7_bestHour_122 : decode cX7_bestHour 122 = .ok (.ireturn, 1) := by decide +kernel
theorem dX7_isCaptain_0 : decode cX7_isCaptain 0 = .ok (.iload_n 0, 1) := by decide +kernel
theorem dX7_isCaptain_1 : decode cX7_isCaptain 1 = .ok (.ifCond .lt 12, 3) := by decide +kernel
theorem dX7_isCaptain_4 : decode cX7_isCaptain 4 = .ok (.iload_n 0, 1) := by decide +kernel
theorem dX7_isCaptain_5 : decode cX7_isCaptain 5 = .ok (.iconst 3, 1) := by decide +kernel
theorem dX7_isCaptain_6 : decode cX7_isCaptain 6 = .ok (.if_icmp .ge 7, 3) := by decide +kernel
theorem dX7_isCaptain_9 : decode cX7_isCaptain 9 = .ok (.iconst 1, 1) := by decide +kernel
theorem dX7_isCaptain_10 : decode cX7_isCaptain 10 = .ok (.goto 4, 3) := by decide +kernel
theorem dX7_isCaptain_13 : decode cX7_isCaptain 13 = .ok (.iconst 0, 1) := by decide +kernel
theorem dX7_isCaptain_14 : decode cX7_isCaptain 14 = .ok (.ireturn, 1) := by decide +kernel
theorem dX7_isValueOfCaptain_0 : decode cX7_isValueOfCaptain 0 = .ok (.getstatic 197, 3) := by decide +kernel
theorem dX7_isValueOfCaptain_3 : decode cX7_isValueOfCaptain 3 = .ok (.getstatic 201, 3) := by decide +kernel
theorem dX7_isValueOfCaptain_6 : decode cX7_isValueOfCaptain 6 = .ok (.iload_n 0, 1) := by decide +kernel
theorem dX7_isValueOfCaptain_7 : decode cX7_isValueOfCaptain 7 = .ok (.iload_n 1, 1) := by decide +kernel
theorem dX7_isValueOfCaptain_8 : decode cX7_isValueOfCaptain 8 = .ok (.invokestatic 204, 3) := by decide +kernel
theorem dX7_isValueOfCaptain_11 : decode cX7_isValueOfCaptain 11 = .ok (.ireturn, 1) := by decide +kernel
theorem dX7_isValueOfSetting_0 : decode cX7_isValueOfSetting 0 = .ok (.getstatic 208, 3) := by decide +kernel
theorem dX7_isValueOfSetting_3 : decode cX7_isValueOfSetting 3 = .ok (.getstatic 211, 3) := by decide +kernel
theorem dX7_isValueOfSetting_6 : decode cX7_isValueOfSetting 6 = .ok (.iload_n 0, 1) := by decide +kernel
theorem dX7_isValueOfSetting_7 : decode cX7_isValueOfSetting 7 = .ok (.iload_n 1, 1) := by decide +kernel
theorem dX7_isValueOfSetting_8 : decode cX7_isValueOfSetting 8 = .ok (.invokestatic 204, 3) := by decide +kernel
theorem dX7_isValueOfSetting_11 : decode cX7_isValueOfSetting 11 = .ok (.ireturn, 1) := by decide +kernel
theorem dX7_isWithin_0 : decode cX7_isWithin 0 = .ok (.iload_n 2, 1) := by decide +kernel
theorem dX7_isWithin_1 : decode cX7_isWithin 1 = .ok (.ifCond .lt 33, 3) := by decide +kernel
theorem dX7_isWithin_4 : decode cX7_isWithin 4 = .ok (.iload_n 2, 1) := by decide +kernel
theorem dX7_isWithin_5 : decode cX7_isWithin 5 = .ok (.aload_n 0, 1) := by decide +kernel
theorem dX7_isWithin_6 : decode cX7_isWithin 6 = .ok (.arraylength, 1) := by decide +kernel
theorem dX7_isWithin_7 : decode cX7_isWithin 7 = .ok (.if_icmp .ge 27, 3) := by decide +kernel
theorem dX7_isWithin_10 : decode cX7_isWithin 10 = .ok (.iload_n 2, 1) := by decide +kernel
theorem dX7_isWithin_11 : decode cX7_isWithin 11 = .ok (.aload_n 1, 1) := by decide +kernel
theorem dX7_isWithin_12 : decode cX7_isWithin 12 = .ok (.arraylength, 1) := by decide +kernel
theorem dX7_isWithin_13 : decode cX7_isWithin 13 = .ok (.if_icmp .ge 21, 3) := by decide +kernel
theorem dX7_isWithin_16 : decode cX7_isWithin 16 = .ok (.iload_n 3, 1) := by decide +kernel
theorem dX7_isWithin_17 : decode cX7_isWithin 17 = .ok (.aload_n 0, 1) := by decide +kernel
theorem dX7_isWithin_18 : decode cX7_isWithin 18 = .ok (.iload_n 2, 1) := by decide +kernel
theorem dX7_isWithin_19 : decode cX7_isWithin 19 = .ok (.iaload, 1) := by decide +kernel
theorem dX7_isWithin_20 : decode cX7_isWithin 20 = .ok (.if_icmp .lt 14, 3) := by decide +kernel
theorem dX7_isWithin_23 : decode cX7_isWithin 23 = .ok (.iload_n 3, 1) := by decide +kernel
theorem dX7_isWithin_24 : decode cX7_isWithin 24 = .ok (.aload_n 1, 1) := by decide +kernel
theorem dX7_isWithin_25 : decode cX7_isWithin 25 = .ok (.iload_n 2, 1) := by decide +kernel
theorem dX7_isWithin_26 : decode cX7_isWithin 26 = .ok (.iaload, 1) := by decide +kernel
theorem dX7_isWithin_27 : decode cX7_isWithin 27 = .ok (.if_icmp .gt 7, 3) := by decide +kernel
theorem dX7_isWithin_30 : decode cX7_isWithin 30 = .ok (.iconst 1, 1) := by decide +kernel
theorem dX7_isWithin_31 : decode cX7_isWithin 31 = .ok (.goto 4, 3) := by decide +kernel
theorem dX7_isWithin_34 : decode cX7_isWithin 34 = .ok (.iconst 0, 1) := by decide +kernel
theorem dX7_isWithin_35 : decode cX7_isWithin 35 = .ok (.ireturn, 1) := by decide +kernel
theorem dX7_levelAt_0 : decode cX7_levelAt 0 = .ok (.iload_n 1, 1) := by decide +kernel
theorem dX7_levelAt_1 : decode cX7_levelAt 1 = .ok (.iload_n 0, 1) := by decide +kernel
theorem dX7_levelAt_2 : decode cX7_levelAt 2 = .ok (.iadd, 1) := by decide +kernel
theorem dX7_levelAt_3 : decode cX7_levelAt 3 = .ok (.bipush 12, 2) := by decide +kernel
theorem dX7_levelAt_5 : decode cX7_levelAt 5 = .ok (.irem, 1) := by decide +kernel
theorem dX7_levelAt_6 : decode cX7_levelAt 6 = .ok (.bipush 6, 2) := by decide +kernel
theorem dX7_levelAt_8 : decode cX7_levelAt 8 = .ok (.isub, 1) := by decide +kernel
theorem dX7_levelAt_9 : decode cX7_levelAt 9 = .ok (.invokestatic 214, 3) := by decide +kernel
theorem dX7_levelAt_12 : decode cX7_levelAt 12 = .ok (.ireturn, 1) := by decide +kernel
theorem dX7_levelReached_0 : decode cX7_levelReached 0 = .ok (.iload_n 0, 1) := by decide +kernel
theorem dX7_levelReached_1 : decode cX7_levelReached 1 = .ok (.iconst 0, 1) := by decide +kernel
theorem dX7_levelReached_2 : decode cX7_levelReached 2 = .ok (.invokestatic 148, 3) := by decide +kernel
theorem dX7_levelReached_5 : decode cX7_levelReached 5 = .ok (.istore_n 2, 1) := by decide +kernel
theorem dX7_levelReached_6 : decode cX7_levelReached 6 = .ok (.iload_n 0, 1) := by decide +kernel
theorem dX7_levelReached_7 : decode cX7_levelReached 7 = .ok (.bipush 6, 2) := by decide +kernel
theorem dX7_levelReached_9 : decode cX7_levelReached 9 = .ok (.if_icmp .ge 7, 3) := by decide +kernel
theorem dX7_levelReached_12 : decode cX7_levelReached 12 = .ok (.iconst 1, 1) := by decide +kernel
theorem dX7_levelReached_13 : decode cX7_levelReached 13 = .ok (.goto 4, 3) := by decide +kernel
theorem dX7_levelReached_16 : decode cX7_levelReached 16 = .ok (.iconst 0, 1) := by decide +kernel
theorem dX7_levelReached_17 : decode cX7_levelReached 17 = .ok (.istore_n 3, 1) := by decide +kernel
theorem dX7_levelReached_18 : decode cX7_levelReached 18 = .ok (.iconst 0, 1) := by decide +kernel
theorem dX7_levelReached_19 : decode cX7_levelReached 19 = .ok (.istore 4, 2) := by decide +kernel
theorem dX7_levelReached_21 : decode cX7_levelReached 21 = .ok (.iload 4, 2) := by decide +kernel
theorem dX7_levelReached_23 : decode cX7_levelReached 23 = .ok (.iload_n 1, 1) := by decide +kernel
theorem dX7_levelReached_24 : decode cX7_levelReached 24 = .ok (.if_icmp .ge 38, 3) := by decide +kernel
theorem dX7_levelReached_27 : decode cX7_levelReached 27 = .ok (.iload_n 2, 1) := by decide +kernel
theorem dX7_levelReached_28 : decode cX7_levelReached 28 = .ok (.iload_n 3, 1) := by decide +kernel
theorem dX7_levelReached_29 : decode cX7_levelReached 29 = .ok (.ifCond .eq 7, 3) := by decide +kernel
theorem dX7_levelReached_32 : decode cX7_levelReached 32 = .ok (.iconst (-1), 1) := by decide +kernel
theorem dX7_levelReached_33 : decode cX7_levelReached 33 = .ok (.goto 4, 3) := by decide +kernel
theorem dX7_levelReached_36 : decode cX7_levelReached 36 = .ok (.iconst 1, 1) := by decide +kernel
theorem dX7_levelReached_37 : decode cX7_levelReached 37 = .ok (.iadd, 1) := by decide +kernel
theorem dX7_levelReached_38 : decode cX7_levelReached 38 = .ok (.istore_n 2, 1) := by decide +kernel
theorem dX7_levelReached_39 : decode cX7_levelReached 39 = .ok (.iload_n 2, 1) := by decide +kernel
theorem dX7_levelReached_40 : decode cX7_levelReached 40 = .ok (.ifCond .ne 8, 3) := by decide +kernel
theorem dX7_levelReached_43 : decode cX7_levelReached 43 = .ok (.iconst 0, 1) := by decide +kernel
theorem dX7_levelReached_44 : decode cX7_levelReached 44 = .ok (.istore_n 3, 1) := by decide +kernel
theorem dX7_levelReached_45 : decode cX7_levelReached 45 = .ok (.goto 11, 3) := by decide +kernel
theorem dX7_levelReached_48 : decode cX7_levelReached 48 = .ok (.iload_n 2, 1) := by decide +kernel
theorem dX7_levelReached_49 : decode cX7_levelReached 49 = .ok (.bipush 6, 2) := by decide +kernel
theorem dX7_levelReached_51 : decode cX7_levelReached 51 = .ok (.if_icmp .ne 5, 3) := by decide +kernel
theorem dX7_levelReached_54 : decode cX7_levelReached 54 = .ok (.iconst 1, 1) := by decide +kernel
theorem dX7_levelReached_55 : decode cX7_levelReached 55 = .ok (.istore_n 3, 1) := by decide +kernel
theorem dX7_levelReached_56 : decode cX7_levelReached 56 = .ok (.iinc 4 1, 3) := by decide +kernel
theorem dX7_levelReached_59 : decode cX7_levelReached 59 = .ok (.goto (-38), 3) := by decide +kernel
theorem dX7_levelReached_62 : decode cX7_levelReached 62 = .ok (.iload_n 2, 1) := by decide +kernel
theorem dX7_levelReached_63 : decode cX7_levelReached 63 = .ok (.ireturn, 1) := by decide +kernel
theorem dX7_hoursWithWater_0 : decode cX7_hoursWithWater 0 = .ok (.iconst 0, 1) := by decide +kernel
theorem dX7_hoursWithWater_1 : decode cX7_hoursWithWater 1 = .ok (.istore_n 2, 1) := by decide +kernel
theorem dX7_hoursWithWater_2 : decode cX7_hoursWithWater 2 = .ok (.iconst 0, 1) := by decide +kernel
theorem dX7_hoursWithWater_3 : decode cX7_hoursWithWater 3 = .ok (.istore_n 3, 1) := by decide +kernel
theorem dX7_hoursWithWater_4 : decode cX7_hoursWithWater 4 = .ok (.iload_n 3, 1) := by decide +kernel
theorem dX7_hoursWithWater_5 : decode cX7_hoursWithWater 5 = .ok (.bipush 24, 2) := by decide +kernel
theorem dX7_hoursWithWater_7 : decode cX7_hoursWithWater 7 = .ok (.if_icmp .ge 24, 3) := by decide +kernel
theorem dX7_hoursWithWater_10 : decode cX7_hoursWithWater 10 = .ok (.iload_n 0, 1) := by decide +kernel
theorem dX7_hoursWithWater_11 : decode cX7_hoursWithWater 11 = .ok (.iload_n 3, 1) := by decide +kernel
theorem dX7_hoursWithWater_12 : decode cX7_hoursWithWater 12 = .ok (.invokestatic 148, 3) := by decide +kernel
theorem dX7_hoursWithWater_15 : decode cX7_hoursWithWater 15 = .ok (.iload_n 1, 1) := by decide +kernel
theorem dX7_hoursWithWater_16 : decode cX7_hoursWithWater 16 = .ok (.if_icmp .lt 9, 3) := by decide +kernel
theorem dX7_hoursWithWater_19 : decode cX7_hoursWithWater 19 = .ok (.iload_n 2, 1) := by decide +kernel
theorem dX7_hoursWithWater_20 : decode cX7_hoursWithWater 20 = .ok (.iconst 1, 1) := by decide +kernel
theorem dX7_hoursWithWater_21 : decode cX7_hoursWithWater 21 = .ok (.iload_n 3, 1) := by decide +kernel
theorem dX7_hoursWithWater_22 : decode cX7_hoursWithWater 22 = .ok (.ishl, 1) := by decide +kernel
theorem dX7_hoursWithWater_23 : decode cX7_hoursWithWater 23 = .ok (.ior, 1) := by decide +kernel
theorem dX7_hoursWithWater_24 : decode cX7_hoursWithWater 24 = .ok (.istore_n 2, 1) := by decide +kernel
theorem dX7_hoursWithWater_25 : decode cX7_hoursWithWater 25 = .ok (.iinc 3 1, 3) := by decide +kernel
theorem dX7_hoursWithWater_28 : decode cX7_hoursWithWater 28 = .ok (.goto (-24), 3) := by decide +kernel
theorem dX7_hoursWithWater_31 : decode cX7_hoursWithWater 31 = .ok (.iload_n 2, 1) := by decide +kernel
theorem dX7_hoursWithWater_32 : decode cX7_hoursWithWater 32 = .ok (.ireturn, 1) := by decide +kernel
theorem dX7_timetableOf_0 : decode cX7_timetableOf 0 = .ok (.aload_n 0, 1) := by decide +kernel
theorem dX7_timetableOf_1 : decode cX7_timetableOf 1 = .ok (.getfield 44, 3) := by decide +kernel
theorem dX7_timetableOf_4 : decode cX7_timetableOf 4 = .ok (.aload_n 0, 1) := by decide +kernel
theorem dX7_timetableOf_5 : decode cX7_timetableOf 5 = .ok (.getfield 12, 3) := by decide +kernel
theorem dX7_timetableOf_8 : decode cX7_timetableOf 8 = .ok (.invokevirtual 155, 3) := by decide +kernel
theorem dX7_timetableOf_11 : decode cX7_timetableOf 11 = .ok (.aload_n 0, 1) := by decide +kernel
theorem dX7_timetableOf_12 : decode cX7_timetableOf 12 = .ok (.getfield 44, 3) := by decide +kernel
theorem dX7_timetableOf_15 : decode cX7_timetableOf 15 = .ok (.getfield 193, 3) := by decide +kernel
theorem dX7_timetableOf_18 : decode cX7_timetableOf 18 = .ok (.iload_n 1, 1) := by decide +kernel
theorem dX7_timetableOf_19 : decode cX7_timetableOf 19 = .ok (.aaload, 1) := by decide +kernel
theorem dX7_timetableOf_20 : decode cX7_timetableOf 20 = .ok (.areturn, 1) := by decide +kernel
theorem dX7_record_0 : decode cX7_record 0 = .ok (.aload_n 0, 1) := by decide +kernel
theorem dX7_record_1 : decode cX7_record 1 = .ok (.getfield 27, 3) := by decide +kernel
theorem dX7_record_4 : decode cX7_record 4 = .ok (.aload_n 0, 1) := by decide +kernel
theorem dX7_record_5 : decode cX7_record 5 = .ok (.getfield 23, 3) := by decide +kernel
theorem dX7_record_8 : decode cX7_record 8 = .ok (.arraylength, 1) := by decide +kernel
theorem dX7_record_9 : decode cX7_record 9 = .ok (.if_icmp .lt 65, 3) := by decide +kernel
theorem dX7_record_12 : decode cX7_record 12 = .ok (.aload_n 0, 1) := by decide +kernel
theorem dX7_record_13 : decode cX7_record 13 = .ok (.getfield 23, 3) := by decide +kernel
theorem dX7_record_16 : decode cX7_record 16 = .ok (.iconst 0, 1) := by decide +kernel
theorem dX7_record_17 : decode cX7_record 17 = .ok (.aaload, 1) := by decide +kernel
theorem dX7_record_18 : decode cX7_record 18 = .ok (.astore_n 1, 1) := by decide +kernel
theorem dX7_record_19 : decode cX7_record 19 = .ok (.iconst 1, 1) := by decide +kernel
theorem dX7_record_20 : decode cX7_record 20 = .ok (.istore_n 2, 1) := by decide +kernel
theorem dX7_record_21 : decode cX7_record 21 = .ok (.iload_n 2, 1) := by decide +kernel
theorem dX7_record_22 : decode cX7_record 22 = .ok (.aload_n 0, 1) := by decide +kernel
theorem dX7_record_23 : decode cX7_record 23 = .ok (.getfield 23, 3) := by decide +kernel
theorem dX7_record_26 : decode cX7_record 26 = .ok (.arraylength, 1) := by decide +kernel
theorem dX7_record_27 : decode cX7_record 27 = .ok (.if_icmp .ge 23, 3) := by decide +kernel
theorem dX7_record_30 : decode cX7_record 30 = .ok (.aload_n 0, 1) := by decide +kernel
theorem dX7_record_31 : decode cX7_record 31 = .ok (.getfield 23, 3) := by decide +kernel
theorem dX7_record_34 : decode cX7_record 34 = .ok (.iload_n 2, 1) := by decide +kernel
theorem dX7_record_35 : decode cX7_record 35 = .ok (.iconst 1, 1) := by decide +kernel
theorem dX7_record_36 : decode cX7_record 36 = .ok (.isub, 1) := by decide +kernel
theorem dX7_record_37 : decode cX7_record 37 = .ok (.aload_n 0, 1) := by decide +kernel
theorem dX7_record_38 : decode cX7_record 38 = .ok (.getfield 23, 3) := by decide +kernel
theorem dX7_record_41 : decode cX7_record 41 = .ok (.iload_n 2, 1) := by decide +kernel
theorem dX7_record_42 : decode cX7_record 42 = .ok (.aaload, 1) := by decide +kernel
theorem dX7_record_43 : decode cX7_record 43 = .ok (.aastore, 1) := by decide +kernel
theorem dX7_record_44 : decode cX7_record 44 = .ok (.iinc 2 1, 3) := by decide +kernel
theorem dX7_record_47 : decode cX7_record 47 = .ok (.goto (-26), 3) := by decide +kernel
theorem dX7_record_50 : decode cX7_record 50 = .ok (.aload_n 0, 1) := by decide +kernel
theorem dX7_record_51 : decode cX7_record 51 = .ok (.getfield 23, 3) := by decide +kernel
theorem dX7_record_54 : decode cX7_record 54 = .ok (.aload_n 0, 1) := by decide +kernel
theorem dX7_record_55 : decode cX7_record 55 = .ok (.getfield 23, 3) := by decide +kernel
theorem dX7_record_58 : decode cX7_record 58 = .ok (.arraylength, 1) := by decide +kernel
theorem dX7_record_59 : decode cX7_record 59 = .ok (.iconst 1, 1) := by decide +kernel
theorem dX7_record_60 : decode cX7_record 60 = .ok (.isub, 1) := by decide +kernel
theorem dX7_record_61 : decode cX7_record 61 = .ok (.aload_n 1, 1) := by decide +kernel
theorem dX7_record_62 : decode cX7_record 62 = .ok (.aastore, 1) := by decide +kernel
theorem dX7_record_63 : decode cX7_record 63 = .ok (.aload_n 0, 1) := by decide +kernel
theorem dX7_record_64 : decode cX7_record 64 = .ok (.aload_n 0, 1) := by decide +kernel
theorem dX7_record_65 : decode cX7_record 65 = .ok (.getfield 23, 3) := by decide +kernel
theorem dX7_record_68 : decode cX7_record 68 = .ok (.arraylength, 1) := by decide +kernel
theorem dX7_record_69 : decode cX7_record 69 = .ok (.iconst 1, 1) := by decide +kernel
theorem dX7_record_70 : decode cX7_record 70 = .ok (.isub, 1) := by decide +kernel
theorem dX7_record_71 : decode cX7_record 71 = .ok (.putfield 27, 3) := by decide +kernel
theorem dX7_record_74 : decode cX7_record 74 = .ok (.aload_n 0, 1) := by decide +kernel
theorem dX7_record_75 : decode cX7_record 75 = .ok (.getfield 23, 3) := by decide +kernel
theorem dX7_record_78 : decode cX7_record 78 = .ok (.aload_n 0, 1) := by decide +kernel
theorem dX7_record_79 : decode cX7_record 79 = .ok (.getfield 27, 3) := by decide +kernel
theorem dX7_record_82 : decode cX7_record 82 = .ok (.aaload, 1) := by decide +kernel
theorem dX7_record_83 : decode cX7_record 83 = .ok (.aload_n 0, 1) := by decide +kernel
theorem dX7_record_84 : decode cX7_record 84 = .ok (.getfield 12, 3) := by decide +kernel
theorem dX7_record_87 : decode cX7_record 87 = .ok (.invokevirtual 80, 3) := by decide +kernel
theorem dX7_record_90 : decode cX7_record 90 = .ok (.aload_n 0, 1) := by decide +kernel
theorem dX7_record_91 : decode cX7_record 91 = .ok (.dup, 1) := by decide +kernel
theorem dX7_record_92 : decode cX7_record 92 = .ok (.getfield 27, 3) := by decide +kernel
theorem dX7_record_95 : decode cX7_record 95 = .ok (.iconst 1, 1) := by decide +kernel
theorem dX7_record_96 : decode cX7_record 96 = .ok (.iadd, 1) := by decide +kernel
theorem dX7_record_97 : decode cX7_record 97 = .ok (.putfield 27, 3) := by decide +kernel
theorem dX7_record_100 : decode cX7_record 100 = .ok (.return_, 1) := by decide +kernel
theorem dJ6_bitCount_0f7a4_0 : decode cJ6_bitCount_0f7a4 0 = .ok (.iload_n 0, 1) := by decide +kernel
theorem dJ6_bitCount_0f7a4_1 : decode cJ6_bitCount_0f7a4 1 = .ok (.iload_n 0, 1) := by decide +kernel
theorem dJ6_bitCount_0f7a4_2 : decode cJ6_bitCount_0f7a4 2 = .ok (.iconst 1, 1) := by decide +kernel
theorem dJ6_bitCount_0f7a4_3 : decode cJ6_bitCount_0f7a4 3 = .ok (.iushr, 1) := by decide +kernel
theorem dJ6_bitCount_0f7a4_4 : decode cJ6_bitCount_0f7a4 4 = .ok (.ldc_w 265, 3) := by decide +kernel
theorem dJ6_bitCount_0f7a4_7 : decode cJ6_bitCount_0f7a4 7 = .ok (.iand, 1) := by decide +kernel
theorem dJ6_bitCount_0f7a4_8 : decode cJ6_bitCount_0f7a4 8 = .ok (.isub, 1) := by decide +kernel
theorem dJ6_bitCount_0f7a4_9 : decode cJ6_bitCount_0f7a4 9 = .ok (.istore_n 0, 1) := by decide +kernel
theorem dJ6_bitCount_0f7a4_10 : decode cJ6_bitCount_0f7a4 10 = .ok (.iload_n 0, 1) := by decide +kernel
theorem dJ6_bitCount_0f7a4_11 : decode cJ6_bitCount_0f7a4 11 = .ok (.ldc_w 266, 3) := by decide +kernel
theorem dJ6_bitCount_0f7a4_14 : decode cJ6_bitCount_0f7a4 14 = .ok (.iand, 1) := by decide +kernel
theorem dJ6_bitCount_0f7a4_15 : decode cJ6_bitCount_0f7a4 15 = .ok (.iload_n 0, 1) := by decide +kernel
theorem dJ6_bitCount_0f7a4_16 : decode cJ6_bitCount_0f7a4 16 = .ok (.iconst 2, 1) := by decide +kernel
theorem dJ6_bitCount_0f7a4_17 : decode cJ6_bitCount_0f7a4 17 = .ok (.iushr, 1) := by decide +kernel
theorem dJ6_bitCount_0f7a4_18 : decode cJ6_bitCount_0f7a4 18 = .ok (.ldc_w 266, 3) := by decide +kernel
theorem dJ6_bitCount_0f7a4_21 : decode cJ6_bitCount_0f7a4 21 = .ok (.iand, 1) := by decide +kernel
theorem dJ6_bitCount_0f7a4_22 : decode cJ6_bitCount_0f7a4 22 = .ok (.iadd, 1) := by decide +kernel
theorem dJ6_bitCount_0f7a4_23 : decode cJ6_bitCount_0f7a4 23 = .ok (.istore_n 0, 1) := by decide +kernel
theorem dJ6_bitCount_0f7a4_24 : decode cJ6_bitCount_0f7a4 24 = .ok (.iload_n 0, 1) := by decide +kernel
theorem dJ6_bitCount_0f7a4_25 : decode cJ6_bitCount_0f7a4 25 = .ok (.iload_n 0, 1) := by decide +kernel
theorem dJ6_bitCount_0f7a4_26 : decode cJ6_bitCount_0f7a4 26 = .ok (.iconst 4, 1) := by decide +kernel
theorem dJ6_bitCount_0f7a4_27 : decode cJ6_bitCount_0f7a4 27 = .ok (.iushr, 1) := by decide +kernel
theorem dJ6_bitCount_0f7a4_28 : decode cJ6_bitCount_0f7a4 28 = .ok (.iadd, 1) := by decide +kernel
theorem dJ6_bitCount_0f7a4_29 : decode cJ6_bitCount_0f7a4 29 = .ok (.ldc_w 267, 3) := by decide +kernel
theorem dJ6_bitCount_0f7a4_32 : decode cJ6_bitCount_0f7a4 32 = .ok (.iand, 1) := by decide +kernel
theorem dJ6_bitCount_0f7a4_33 : decode cJ6_bitCount_0f7a4 33 = .ok (.istore_n 0, 1) := by decide +kernel
theorem dJ6_bitCount_0f7a4_34 : decode cJ6_bitCount_0f7a4 34 = .ok (.iload_n 0, 1) := by decide +kernel
theorem dJ6_bitCount_0f7a4_35 : decode cJ6_bitCount_0f7a4 35 = .ok (.iload_n 0, 1) := by decide +kernel
theorem dJ6_bitCount_0f7a4_36 : decode cJ6_bitCount_0f7a4 36 = .ok (.bipush 8, 2) := by decide +kernel
theorem dJ6_bitCount_0f7a4_38 : decode cJ6_bitCount_0f7a4 38 = .ok (.iushr, 1) := by decide +kernel
theorem dJ6_bitCount_0f7a4_39 : decode cJ6_bitCount_0f7a4 39 = .ok (.iadd, 1) := by decide +kernel
theorem dJ6_bitCount_0f7a4_40 : decode cJ6_bitCount_0f7a4 40 = .ok (.istore_n 0, 1) := by decide +kernel
theorem dJ6_bitCount_0f7a4_41 : decode cJ6_bitCount_0f7a4 41 = .ok (.iload_n 0, 1) := by decide +kernel
theorem dJ6_bitCount_0f7a4_42 : decode cJ6_bitCount_0f7a4 42 = .ok (.iload_n 0, 1) := by decide +kernel
theorem dJ6_bitCount_0f7a4_43 : decode cJ6_bitCount_0f7a4 43 = .ok (.bipush 16, 2) := by decide +kernel
theorem dJ6_bitCount_0f7a4_45 : decode cJ6_bitCount_0f7a4 45 = .ok (.iushr, 1) := by decide +kernel
theorem dJ6_bitCount_0f7a4_46 : decode cJ6_bitCount_0f7a4 46 = .ok (.iadd, 1) := by decide +kernel
theorem dJ6_bitCount_0f7a4_47 : decode cJ6_bitCount_0f7a4 47 = .ok (.istore_n 0, 1) := by decide +kernel
theorem dJ6_bitCount_0f7a4_48 : decode cJ6_bitCount_0f7a4 48 = .ok (.iload_n 0, 1) := by decide +kernel
theorem dJ6_bitCount_0f7a4_49 : decode cJ6_bitCount_0f7a4 49 = .ok (.bipush 63, 2) := by decide +kernel
theorem dJ6_bitCount_0f7a4_51 : decode cJ6_bitCount_0f7a4 51 = .ok (.iand, 1) := by decide +kernel
theorem dJ6_bitCount_0f7a4_52 : decode cJ6_bitCount_0f7a4 52 = .ok (.ireturn, 1) := by decide +kernel
theorem dJ9_abs_0f7a4_0 : decode cJ9_abs_0f7a4 0 = .ok (.iload_n 0, 1) := by decide +kernel
theorem dJ9_abs_0f7a4_1 : decode cJ9_abs_0f7a4 1 = .ok (.ifCond .ge 8, 3) := by decide +kernel
theorem dJ9_abs_0f7a4_4 : decode cJ9_abs_0f7a4 4 = .ok (.iload_n 0, 1) := by decide +kernel
theorem dJ9_abs_0f7a4_5 : decode cJ9_abs_0f7a4 5 = .ok (.ineg, 1) := by decide +kernel
theorem dJ9_abs_0f7a4_6 : decode cJ9_abs_0f7a4 6 = .ok (.goto 4, 3) := by decide +kernel
theorem dJ9_abs_0f7a4_9 : decode cJ9_abs_0f7a4 9 = .ok (.iload_n 0, 1) := by decide +kernel
theorem dJ9_abs_0f7a4_10 : decode cJ9_abs_0f7a4 10 = .ok (.ireturn, 1) := by decide +kernel
theorem dL_cell_0 : decode cL_cell 0 = .ok (.iload_n 1, 1) := by decide +kernel
theorem dL_cell_1 : decode cL_cell 1 = .ok (.aload_n 0, 1) := by decide +kernel
theorem dL_cell_2 : decode cL_cell 2 = .ok (.arraylength, 1) := by decide +kernel
theorem dL_cell_3 : decode cL_cell 3 = .ok (.if_icmp .ge 9, 3) := by decide +kernel
theorem dL_cell_6 : decode cL_cell 6 = .ok (.aload_n 0, 1) := by decide +kernel
theorem dL_cell_7 : decode cL_cell 7 = .ok (.iload_n 1, 1) := by decide +kernel
theorem dL_cell_8 : decode cL_cell 8 = .ok (.iaload, 1) := by decide +kernel
theorem dL_cell_9 : decode cL_cell 9 = .ok (.goto 11, 3) := by decide +kernel
theorem dL_cell_12 : decode cL_cell 12 = .ok (.ldc 7, 2) := by decide +kernel
theorem dL_cell_14 : decode cL_cell 14 = .ok (.iload_n 1, 1) := by decide +kernel
theorem dL_cell_15 : decode cL_cell 15 = .ok (.imul, 1) := by decide +kernel
theorem dL_cell_16 : decode cL_cell 16 = .ok (.sipush 2083, 3) := by decide +kernel
theorem dL_cell_19 : decode cL_cell 19 = .ok (.iadd, 1) := by decide +kernel
theorem dL_cell_20 : decode cL_cell 20 = .ok (.ireturn, 1) := by decide +kernel
theorem dL_low_0 : decode cL_low 0 = .ok (.iload_n 0, 1) := by decide +kernel
theorem dL_low_1 : decode cL_low 1 = .ok (.ldc 8, 2) := by decide +kernel
theorem dL_low_3 : decode cL_low 3 = .ok (.iand, 1) := by decide +kernel
theorem dL_low_4 : decode cL_low 4 = .ok (.iload_n 1, 1) := by decide +kernel
theorem dL_low_5 : decode cL_low 5 = .ok (.irem, 1) := by decide +kernel
theorem dL_low_6 : decode cL_low 6 = .ok (.ireturn, 1) := by decide +kernel
theorem dL_tell_0 : decode cL_tell 0 = .ok (.bipush 48, 2) := by decide +kernel
theorem dL_tell_2 : decode cL_tell 2 = .ok (.newarray .int, 2) := by decide +kernel
theorem dL_tell_4 : decode cL_tell 4 = .ok (.astore_n 1, 1) := by decide +kernel
theorem dL_tell_5 : decode cL_tell 5 = .ok (.iconst 0, 1) := by decide +kernel
theorem dL_tell_6 : decode cL_tell 6 = .ok (.istore_n 2, 1) := by decide +kernel
theorem dL_tell_7 : decode cL_tell 7 = .ok (.iload_n 2, 1) := by decide +kernel
theorem dL_tell_8 : decode cL_tell 8 = .ok (.bipush 10, 2) := by decide +kernel
theorem dL_tell_10 : decode cL_tell 10 = .ok (.if_icmp .ge 17, 3) := by decide +kernel
theorem dL_tell_13 : decode cL_tell 13 = .ok (.aload_n 1, 1) := by decide +kernel
theorem dL_tell_14 : decode cL_tell 14 = .ok (.iload_n 2, 1) := by decide +kernel
theorem dL_tell_15 : decode cL_tell 15 = .ok (.aload_n 0, 1) := by decide +kernel
theorem dL_tell_16 : decode cL_tell 16 = .ok (.iload_n 2, 1) := by decide +kernel
theorem dL_tell_17 : decode cL_tell 17 = .ok (.invokevirtual 9, 3) := by decide +kernel
theorem dL_tell_20 : decode cL_tell 20 = .ok (.iastore, 1) := by decide +kernel
theorem dL_tell_21 : decode cL_tell 21 = .ok (.iinc 2 1, 3) := by decide +kernel
theorem dL_tell_24 : decode cL_tell 24 = .ok (.goto (-17), 3) := by decide +kernel
theorem dL_tell_27 : decode cL_tell 27 = .ok (.aload_n 1, 1) := by decide +kernel
theorem dL_tell_28 : decode cL_tell 28 = .ok (.bipush 10, 2) := by decide +kernel
theorem dL_tell_30 : decode cL_tell 30 = .ok (.aload_n 0, 1) := by decide +kernel
theorem dL_tell_31 : decode cL_tell 31 = .ok (.bipush 12, 2) := by decide +kernel
theorem dL_tell_33 : decode cL_tell 33 = .ok (.invokevirtual 9, 3) := by decide +kernel
theorem dL_tell_36 : decode cL_tell 36 = .ok (.iastore, 1) := by decide +kernel
theorem dL_tell_37 : decode cL_tell 37 = .ok (.aload_n 1, 1) := by decide +kernel
theorem dL_tell_38 : decode cL_tell 38 = .ok (.bipush 11, 2) := by decide +kernel
theorem dL_tell_40 : decode cL_tell 40 = .ok (.aload_n 0, 1) := by decide +kernel
theorem dL_tell_41 : decode cL_tell 41 = .ok (.bipush 13, 2) := by decide +kernel
theorem dL_tell_43 : decode cL_tell 43 = .ok (.invokevirtual 9, 3) := by decide +kernel
theorem dL_tell_46 : decode cL_tell 46 = .ok (.iastore, 1) := by decide +kernel
theorem dL_tell_47 : decode cL_tell 47 = .ok (.iconst 0, 1) := by decide +kernel
theorem dL_tell_48 : decode cL_tell 48 = .ok (.istore_n 2, 1) := by decide +kernel
theorem dL_tell_49 : decode cL_tell 49 = .ok (.iload_n 2, 1) := by decide +kernel
theorem dL_tell_50 : decode cL_tell 50 = .ok (.iconst 3, 1) := by decide +kernel
theorem dL_tell_51 : decode cL_tell 51 = .ok (.if_icmp .ge 40, 3) := by decide +kernel
theorem dL_tell_54 : decode cL_tell 54 = .ok (.iconst 0, 1) := by decide +kernel
theorem dL_tell_55 : decode cL_tell 55 = .ok (.istore_n 3, 1) := by decide +kernel
theorem dL_tell_56 : decode cL_tell 56 = .ok (.iload_n 3, 1) := by decide +kernel
theorem dL_tell_57 : decode cL_tell 57 = .ok (.bipush 11, 2) := by decide +kernel
theorem dL_tell_59 : decode cL_tell 59 = .ok (.if_icmp .ge 26, 3) := by decide +kernel
theorem dL_tell_62 : decode cL_tell 62 = .ok (.aload_n 1, 1) := by decide +kernel
theorem dL_tell_63 : decode cL_tell 63 = .ok (.bipush 12, 2) := by decide +kernel
theorem dL_tell_65 : decode cL_tell 65 = .ok (.bipush 11, 2) := by decide +kernel
theorem dL_tell_67 : decode cL_tell 67 = .ok (.iload_n 2, 1) := by decide +kernel
theorem dL_tell_68 : decode cL_tell 68 = .ok (.imul, 1) := by decide +kernel
theorem dL_tell_69 : decode cL_tell 69 = .ok (.iadd, 1) := by decide +kernel
theorem dL_tell_70 : decode cL_tell 70 = .ok (.iload_n 3, 1) := by decide +kernel
theorem dL_tell_71 : decode cL_tell 71 = .ok (.iadd, 1) := by decide +kernel
theorem dL_tell_72 : decode cL_tell 72 = .ok (.aload_n 0, 1) := by decide +kernel
theorem dL_tell_73 : decode cL_tell 73 = .ok (.iload_n 2, 1) := by decide +kernel
theorem dL_tell_74 : decode cL_tell 74 = .ok (.iload_n 3, 1) := by decide +kernel
theorem dL_tell_75 : decode cL_tell 75 = .ok (.invokevirtual 15, 3) := by decide +kernel
theorem dL_tell_78 : decode cL_tell 78 = .ok (.iastore, 1) := by decide +kernel
theorem dL_tell_79 : decode cL_tell 79 = .ok (.iinc 3 1, 3) := by decide +kernel
theorem dL_tell_82 : decode cL_tell 82 = .ok (.goto (-26), 3) := by decide +kernel
theorem dL_tell_85 : decode cL_tell 85 = .ok (.iinc 2 1, 3) := by decide +kernel
theorem dL_tell_88 : decode cL_tell 88 = .ok (.goto (-39), 3) := by decide +kernel
theorem dL_tell_91 : decode cL_tell 91 = .ok (.aload_n 1, 1) := by decide +kernel
theorem dL_tell_92 : decode cL_tell 92 = .ok (.areturn, 1) := by decide +kernel
theorem dL_same_0 : decode cL_same 0 = .ok (.iconst 0, 1) := by decide +kernel
theorem dL_same_1 : decode cL_same 1 = .ok (.istore_n 2, 1) := by decide +kernel
theorem dL_same_2 : decode cL_same 2 = .ok (.iload_n 2, 1) := by decide +kernel
theorem dL_same_3 : decode cL_same 3 = .ok (.bipush 45, 2) := by decide +kernel
theorem dL_same_5 : decode cL_same 5 = .ok (.if_icmp .ge 20, 3) := by decide +kernel
theorem dL_same_8 : decode cL_same 8 = .ok (.aload_n 0, 1) := by decide +kernel
theorem dL_same_9 : decode cL_same 9 = .ok (.iload_n 2, 1) := by decide +kernel
theorem dL_same_10 : decode cL_same 10 = .ok (.iaload, 1) := by decide +kernel
theorem dL_same_11 : decode cL_same 11 = .ok (.aload_n 1, 1) := by decide +kernel
theorem dL_same_12 : decode cL_same 12 = .ok (.iload_n 2, 1) := by decide +kernel
theorem dL_same_13 : decode cL_same 13 = .ok (.iaload, 1) := by decide +kernel
theorem dL_same_14 : decode cL_same 14 = .ok (.if_icmp .eq 5, 3) := by decide +kernel
theorem dL_same_17 : decode cL_same 17 = .ok (.iconst 0, 1) := by decide +kernel
theorem dL_same_18 : decode cL_same 18 = .ok (.ireturn, 1) := by decide +kernel
theorem dL_same_19 : decode cL_same 19 = .ok (.iinc 2 1, 3) := by decide +kernel
theorem dL_same_22 : decode cL_same 22 = .ok (.goto (-20), 3) := by decide +kernel
theorem dL_same_25 : decode cL_same 25 = .ok (.iconst 1, 1) := by decide +kernel
theorem dL_same_26 : decode cL_same 26 = .ok (.ireturn, 1) := by decide +kernel
theorem dL_tides_0 : decode cL_tides 0 = .ok (.iconst 0, 1) := by decide +kernel
theorem dL_tides_1 : decode cL_tides 1 = .ok (.istore_n 1, 1) := by decide +kernel
theorem dL_tides_2 : decode cL_tides 2 = .ok (.iload_n 1, 1) := by decide +kernel
theorem dL_tides_3 : decode cL_tides 3 = .ok (.iconst 4, 1) := by decide +kernel
theorem dL_tides_4 : decode cL_tides 4 = .ok (.if_icmp .ge 90, 3) := by decide +kernel
theorem dL_tides_7 : decode cL_tides 7 = .ok (.iconst 0, 1) := by decide +kernel
theorem dL_tides_8 : decode cL_tides 8 = .ok (.istore_n 2, 1) := by decide +kernel
theorem dL_tides_9 : decode cL_tides 9 = .ok (.iload_n 2, 1) := by decide +kernel
theorem dL_tides_10 : decode cL_tides 10 = .ok (.bipush 23, 2) := by decide +kernel
theorem dL_tides_12 : decode cL_tides 12 = .ok (.if_icmp .ge 76, 3) := by decide +kernel
theorem dL_tides_15 : decode cL_tides 15 = .ok (.aload_n 0, 1) := by decide +kernel
theorem dL_tides_16 : decode cL_tides 16 = .ok (.iload_n 1, 1) := by decide +kernel
theorem dL_tides_17 : decode cL_tides 17 = .ok (.iload_n 2, 1) := by decide +kernel
theorem dL_tides_18 : decode cL_tides 18 = .ok (.iconst 0, 1) := by decide +kernel
theorem dL_tides_19 : decode cL_tides 19 = .ok (.invokevirtual 19, 3) := by decide +kernel
theorem dL_tides_22 : decode cL_tides 22 = .ok (.istore_n 3, 1) := by decide +kernel
theorem dL_tides_23 : decode cL_tides 23 = .ok (.aload_n 0, 1) := by decide +kernel
theorem dL_tides_24 : decode cL_tides 24 = .ok (.iload_n 1, 1) := by decide +kernel
theorem dL_tides_25 : decode cL_tides 25 = .ok (.iload_n 2, 1) := by decide +kernel
theorem dL_tides_26 : decode cL_tides 26 = .ok (.iconst 1, 1) := by decide +kernel
theorem dL_tides_27 : decode cL_tides 27 = .ok (.iadd, 1) := by decide +kernel
theorem dL_tides_28 : decode cL_tides 28 = .ok (.iconst 1, 1) := by decide +kernel
theorem dL_tides_29 : decode cL_tides 29 = .ok (.invokevirtual 19, 3) := by decide +kernel
theorem dL_tides_32 : decode cL_tides 32 = .ok (.istore 4, 2) := by decide +kernel
theorem dL_tides_34 : decode cL_tides 34 = .ok (.iload_n 3, 1) := by decide +kernel
theorem dL_tides_35 : decode cL_tides 35 = .ok (.ifCond .lt 45, 3) := by decide +kernel
theorem dL_tides_38 : decode cL_tides 38 = .ok (.iload_n 3, 1) := by decide +kernel
theorem dL_tides_39 : decode cL_tides 39 = .ok (.bipush 6, 2) := by decide +kernel
theorem dL_tides_41 : decode cL_tides 41 = .ok (.if_icmp .gt 39, 3) := by decide +kernel
theorem dL_tides_44 : decode cL_tides 44 = .ok (.iload_n 3, 1) := by decide +kernel
theorem dL_tides_45 : decode cL_tides 45 = .ok (.iload 4, 2) := by decide +kernel
theorem dL_tides_47 : decode cL_tides 47 = .ok (.isub, 1) := by decide +kernel
theorem dL_tides_48 : decode cL_tides 48 = .ok (.iconst 1, 1) := by decide +kernel
theorem dL_tides_49 : decode cL_tides 49 = .ok (.if_icmp .eq 11, 3) := by decide +kernel
theorem dL_tides_52 : decode cL_tides 52 = .ok (.iload 4, 2) := by decide +kernel
theorem dL_tides_54 : decode cL_tides 54 = .ok (.iload_n 3, 1) := by decide +kernel
theorem dL_tides_55 : decode cL_tides 55 = .ok (.isub, 1) := by decide +kernel
theorem dL_tides_56 : decode cL_tides 56 = .ok (.iconst 1, 1) := by decide +kernel
theorem dL_tides_57 : decode cL_tides 57 = .ok (.if_icmp .ne 23, 3) := by decide +kernel
theorem dL_tides_60 : decode cL_tides 60 = .ok (.iload_n 2, 1) := by decide +kernel
theorem dL_tides_61 : decode cL_tides 61 = .ok (.bipush 12, 2) := by decide +kernel
theorem dL_tides_63 : decode cL_tides 63 = .ok (.if_icmp .ge 19, 3) := by decide +kernel
theorem dL_tides_66 : decode cL_tides 66 = .ok (.aload_n 0, 1) := by decide +kernel
theorem dL_tides_67 : decode cL_tides 67 = .ok (.iload_n 1, 1) := by decide +kernel
theorem dL_tides_68 : decode cL_tides 68 = .ok (.iload_n 2, 1) := by decide +kernel
theorem dL_tides_69 : decode cL_tides 69 = .ok (.bipush 12, 2) := by decide +kernel
theorem dL_tides_71 : decode cL_tides 71 = .ok (.iadd, 1) := by decide +kernel
theorem dL_tides_72 : decode cL_tides 72 = .ok (.iconst 0, 1) := by decide +kernel
theorem dL_tides_73 : decode cL_tides 73 = .ok (.invokevirtual 19, 3) := by decide +kernel
theorem dL_tides_76 : decode cL_tides 76 = .ok (.iload_n 3, 1) := by decide +kernel
theorem dL_tides_77 : decode cL_tides 77 = .ok (.if_icmp .eq 5, 3) := by decide +kernel
theorem dL_tides_80 : decode cL_tides 80 = .ok (.iconst 0, 1) := by decide +kernel
theorem dL_tides_81 : decode cL_tides 81 = .ok (.ireturn, 1) := by decide +kernel
theorem dL_tides_82 : decode cL_tides 82 = .ok (.iinc 2 1, 3) := by decide +kernel
theorem dL_tides_85 : decode cL_tides 85 = .ok (.goto (-76), 3) := by decide +kernel
theorem dL_tides_88 : decode cL_tides 88 = .ok (.iinc 1 1, 3) := by decide +kernel
theorem dL_tides_91 : decode cL_tides 91 = .ok (.goto (-89), 3) := by decide +kernel
theorem dL_tides_94 : decode cL_tides 94 = .ok (.iconst 1, 1) := by decide +kernel
theorem dL_tides_95 : decode cL_tides 95 = .ok (.ireturn, 1) := by decide +kernel
theorem dL_printed_0 : decode cL_printed 0 = .ok (.iconst 0, 1) := by decide +kernel
theorem dL_printed_1 : decode cL_printed 1 = .ok (.istore_n 1, 1) := by decide +kernel
theorem dL_printed_2 : decode cL_printed 2 = .ok (.iconst 0, 1) := by decide +kernel
theorem dL_printed_3 : decode cL_printed 3 = .ok (.istore_n 2, 1) := by decide +kernel
theorem dL_printed_4 : decode cL_printed 4 = .ok (.iload_n 2, 1) := by decide +kernel
theorem dL_printed_5 : decode cL_printed 5 = .ok (.iconst 3, 1) := by decide +kernel
theorem dL_printed_6 : decode cL_printed 6 = .ok (.if_icmp .ge 213, 3) := by decide +kernel
theorem dL_printed_9 : decode cL_printed 9 = .ok (.aload_n 0, 1) := by decide +kernel
theorem dL_printed_10 : decode cL_printed 10 = .ok (.iload_n 2, 1) := by decide +kernel
theorem dL_printed_11 : decode cL_printed 11 = .ok (.iconst 4, 1) := by decide +kernel
theorem dL_printed_12 : decode cL_printed 12 = .ok (.invokevirtual 15, 3) := by decide +kernel
theorem dL_printed_15 : decode cL_printed 15 = .ok (.istore_n 3, 1) := by decide +kernel
theorem dL_printed_16 : decode cL_printed 16 = .ok (.iload_n 1, 1) := by decide +kernel
theorem dL_printed_17 : decode cL_printed 17 = .ok (.iload_n 3, 1) := by decide +kernel
theorem dL_printed_18 : decode cL_printed 18 = .ok (.iadd, 1) := by decide +kernel
theorem dL_printed_19 : decode cL_printed 19 = .ok (.istore_n 1, 1) := by decide +kernel
theorem dL_printed_20 : decode cL_printed 20 = .ok (.iconst 0, 1) := by decide +kernel
theorem dL_printed_21 : decode cL_printed 21 = .ok (.istore 4, 2) := by decide +kernel
theorem dL_printed_23 : decode cL_printed 23 = .ok (.iload 4, 2) := by decide +kernel
theorem dL_printed_25 : decode cL_printed 25 = .ok (.iload_n 3, 1) := by decide +kernel
theorem dL_printed_26 : decode cL_printed 26 = .ok (.if_icmp .ge 162, 3) := by decide +kernel
theorem dL_printed_29 : decode cL_printed 29 = .ok (.aload_n 0, 1) := by decide +kernel
theorem dL_printed_30 : decode cL_printed 30 = .ok (.iload_n 2, 1) := by decide +kernel
theorem dL_printed_31 : decode cL_printed 31 = .ok (.iload 4, 2) := by decide +kernel
theorem dL_printed_33 : decode cL_printed 33 = .ok (.iconst 0, 1) := by decide +kernel
theorem dL_printed_34 : decode cL_printed 34 = .ok (.invokevirtual 23, 3) := by decide +kernel
theorem dL_printed_37 : decode cL_printed 37 = .ok (.istore 5, 2) := by decide +kernel
theorem dL_printed_39 : decode cL_printed 39 = .ok (.iload 4, 2) := by decide +kernel
theorem dL_printed_41 : decode cL_printed 41 = .ok (.ifCond .ne 22, 3) := by decide +kernel
theorem dL_printed_44 : decode cL_printed 44 = .ok (.iload 5, 2) := by decide +kernel
theorem dL_printed_46 : decode cL_printed 46 = .ok (.aload_n 0, 1) := by decide +kernel
theorem dL_printed_47 : decode cL_printed 47 = .ok (.iload_n 2, 1) := by decide +kernel
theorem dL_printed_48 : decode cL_printed 48 = .ok (.iconst 2, 1) := by decide +kernel
theorem dL_printed_49 : decode cL_printed 49 = .ok (.invokevirtual 15, 3) := by decide +kernel
theorem dL_printed_52 : decode cL_printed 52 = .ok (.if_icmp .ge 7, 3) := by decide +kernel
theorem dL_printed_55 : decode cL_printed 55 = .ok (.iconst 1, 1) := by decide +kernel
theorem dL_printed_56 : decode cL_printed 56 = .ok (.goto 50, 3) := by decide +kernel
theorem dL_printed_59 : decode cL_printed 59 = .ok (.iconst 0, 1) := by decide +kernel
theorem dL_printed_60 : decode cL_printed 60 = .ok (.goto 46, 3) := by decide +kernel
theorem dL_printed_63 : decode cL_printed 63 = .ok (.iload 5, 2) := by decide +kernel
theorem dL_printed_65 : decode cL_printed 65 = .ok (.aload_n 0, 1) := by decide +kernel
theorem dL_printed_66 : decode cL_printed 66 = .ok (.iload_n 2, 1) := by decide +kernel
theorem dL_printed_67 : decode cL_printed 67 = .ok (.iload 4, 2) := by decide +kernel
theorem dL_printed_69 : decode cL_printed 69 = .ok (.iconst 1, 1) := by decide +kernel
theorem dL_printed_70 : decode cL_printed 70 = .ok (.isub, 1) := by decide +kernel
theorem dL_printed_71 : decode cL_printed 71 = .ok (.iconst 0, 1) := by decide +kernel
theorem dL_printed_72 : decode cL_printed 72 = .ok (.invokevirtual 23, 3) := by decide +kernel
theorem dL_printed_75 : decode cL_printed 75 = .ok (.iconst 3, 1) := by decide +kernel
theorem dL_printed_76 : decode cL_printed 76 = .ok (.iadd, 1) := by decide +kernel
theorem dL_printed_77 : decode cL_printed 77 = .ok (.if_icmp .lt 24, 3) := by decide +kernel
theorem dL_printed_80 : decode cL_printed 80 = .ok (.aload_n 0, 1) := by decide +kernel
theorem dL_printed_81 : decode cL_printed 81 = .ok (.iload_n 2, 1) := by decide +kernel
theorem dL_printed_82 : decode cL_printed 82 = .ok (.iload 4, 2) := by decide +kernel
theorem dL_printed_84 : decode cL_printed 84 = .ok (.iconst 1, 1) := by decide +kernel
theorem dL_printed_85 : decode cL_printed 85 = .ok (.invokevirtual 23, 3) := by decide +kernel
theorem dL_printed_88 : decode cL_printed 88 = .ok (.aload_n 0, 1) := by decide +kernel
theorem dL_printed_89 : decode cL_printed 89 = .ok (.iload_n 2, 1) := by decide +kernel
theorem dL_printed_90 : decode cL_printed 90 = .ok (.iload 4, 2) := by decide +kernel
theorem dL_printed_92 : decode cL_printed 92 = .ok (.iconst 1, 1) := by decide +kernel
theorem dL_printed_93 : decode cL_printed 93 = .ok (.isub, 1) := by decide +kernel
theorem dL_printed_94 : decode cL_printed 94 = .ok (.iconst 1, 1) := by decide +kernel
theorem dL_printed_95 : decode cL_printed 95 = .ok (.invokevirtual 23, 3) := by decide +kernel
theorem dL_printed_98 : decode cL_printed 98 = .ok (.if_icmp .ne 7, 3) := by decide +kernel
theorem dL_printed_101 : decode cL_printed 101 = .ok (.iconst 1, 1) := by decide +kernel
theorem dL_printed_102 : decode cL_printed 102 = .ok (.goto 4, 3) := by decide +kernel
theorem dL_printed_105 : decode cL_printed 105 = .ok (.iconst 0, 1) := by decide +kernel
theorem dL_printed_106 : decode cL_printed 106 = .ok (.istore 6, 2) := by decide +kernel
theorem dL_printed_108 : decode cL_printed 108 = .ok (.iload 6, 2) := by decide +kernel
theorem dL_printed_110 : decode cL_printed 110 = .ok (.ifCond .ne 70, 3) := by decide +kernel
theorem dL_printed_113 : decode cL_printed 113 = .ok (.iload 5, 2) := by decide +kernel
theorem dL_printed_115 : decode cL_printed 115 = .ok (.bipush 21, 2) := by decide +kernel
theorem dL_printed_117 : decode cL_printed 117 = .ok (.if_icmp .gt 63, 3) := by decide +kernel
theorem dL_printed_120 : decode cL_printed 120 = .ok (.aload_n 0, 1) := by decide +kernel
theorem dL_printed_121 : decode cL_printed 121 = .ok (.iload_n 2, 1) := by decide +kernel
theorem dL_printed_122 : decode cL_printed 122 = .ok (.iconst 0, 1) := by decide +kernel
theorem dL_printed_123 : decode cL_printed 123 = .ok (.invokevirtual 26, 3) := by decide +kernel
theorem dL_printed_126 : decode cL_printed 126 = .ok (.iload 5, 2) := by decide +kernel
theorem dL_printed_128 : decode cL_printed 128 = .ok (.ishr, 1) := by decide +kernel
theorem dL_printed_129 : decode cL_printed 129 = .ok (.iconst 1, 1) := by decide +kernel
theorem dL_printed_130 : decode cL_printed 130 = .ok (.iand, 1) := by decide +kernel
theorem dL_printed_131 : decode cL_printed 131 = .ok (.ifCond .eq 49, 3) := by decide +kernel
theorem dL_printed_134 : decode cL_printed 134 = .ok (.aload_n 0, 1) := by decide +kernel
theorem dL_printed_135 : decode cL_printed 135 = .ok (.aload_n 0, 1) := by decide +kernel
theorem dL_printed_136 : decode cL_printed 136 = .ok (.iload_n 2, 1) := by decide +kernel
theorem dL_printed_137 : decode cL_printed 137 = .ok (.iload 4, 2) := by decide +kernel
theorem dL_printed_139 : decode cL_printed 139 = .ok (.iconst 1, 1) := by decide +kernel
theorem dL_printed_140 : decode cL_printed 140 = .ok (.invokevirtual 23, 3) := by decide +kernel
theorem dL_printed_143 : decode cL_printed 143 = .ok (.iload 5, 2) := by decide +kernel
theorem dL_printed_145 : decode cL_printed 145 = .ok (.invokevirtual 29, 3) := by decide +kernel
theorem dL_printed_148 : decode cL_printed 148 = .ok (.iload_n 2, 1) := by decide +kernel
theorem dL_printed_149 : decode cL_printed 149 = .ok (.ishr, 1) := by decide +kernel
theorem dL_printed_150 : decode cL_printed 150 = .ok (.iconst 1, 1) := by decide +kernel
theorem dL_printed_151 : decode cL_printed 151 = .ok (.iand, 1) := by decide +kernel
theorem dL_printed_152 : decode cL_printed 152 = .ok (.ifCond .eq 28, 3) := by decide +kernel
theorem dL_printed_155 : decode cL_printed 155 = .ok (.aload_n 0, 1) := by decide +kernel
theorem dL_printed_156 : decode cL_printed 156 = .ok (.iconst 1, 1) := by decide +kernel
theorem dL_printed_157 : decode cL_printed 157 = .ok (.aload_n 0, 1) := by decide +kernel
theorem dL_printed_158 : decode cL_printed 158 = .ok (.iload_n 2, 1) := by decide +kernel
theorem dL_printed_159 : decode cL_printed 159 = .ok (.iload 4, 2) := by decide +kernel
theorem dL_printed_161 : decode cL_printed 161 = .ok (.iconst 1, 1) := by decide +kernel
theorem dL_printed_162 : decode cL_printed 162 = .ok (.invokevirtual 23, 3) := by decide +kernel
theorem dL_printed_165 : decode cL_printed 165 = .ok (.isub, 1) := by decide +kernel
theorem dL_printed_166 : decode cL_printed 166 = .ok (.iload 5, 2) := by decide +kernel
theorem dL_printed_168 : decode cL_printed 168 = .ok (.iconst 2, 1) := by decide +kernel
theorem dL_printed_169 : decode cL_printed 169 = .ok (.iadd, 1) := by decide +kernel
theorem dL_printed_170 : decode cL_printed 170 = .ok (.invokevirtual 29, 3) := by decide +kernel
theorem dL_printed_173 : decode cL_printed 173 = .ok (.iload_n 2, 1) := by decide +kernel
theorem dL_printed_174 : decode cL_printed 174 = .ok (.ishr, 1) := by decide +kernel
theorem dL_printed_175 : decode cL_printed 175 = .ok (.iconst 1, 1) := by decide +kernel
theorem dL_printed_176 : decode cL_printed 176 = .ok (.iand, 1) := by decide +kernel
theorem dL_printed_177 : decode cL_printed 177 = .ok (.ifCond .ne 5, 3) := by decide +kernel
theorem dL_printed_180 : decode cL_printed 180 = .ok (.iconst 0, 1) := by decide +kernel
theorem dL_printed_181 : decode cL_printed 181 = .ok (.ireturn, 1) := by decide +kernel
theorem dL_printed_182 : decode cL_printed 182 = .ok (.iinc 4 1, 3) := by decide +kernel
theorem dL_printed_185 : decode cL_printed 185 = .ok (.goto (-162), 3) := by decide +kernel
theorem dL_printed_188 : decode cL_printed 188 = .ok (.aload_n 0, 1) := by decide +kernel
theorem dL_printed_189 : decode cL_printed 189 = .ok (.iload_n 2, 1) := by decide +kernel
theorem dL_printed_190 : decode cL_printed 190 = .ok (.iconst 0, 1) := by decide +kernel
theorem dL_printed_191 : decode cL_printed 191 = .ok (.invokevirtual 15, 3) := by decide +kernel
theorem dL_printed_194 : decode cL_printed 194 = .ok (.aload_n 0, 1) := by decide +kernel
theorem dL_printed_195 : decode cL_printed 195 = .ok (.iconst 1, 1) := by decide +kernel
theorem dL_printed_196 : decode cL_printed 196 = .ok (.invokevirtual 9, 3) := by decide +kernel
theorem dL_printed_199 : decode cL_printed 199 = .ok (.if_icmp .ne 14, 3) := by decide +kernel
theorem dL_printed_202 : decode cL_printed 202 = .ok (.aload_n 0, 1) := by decide +kernel
theorem dL_printed_203 : decode cL_printed 203 = .ok (.iload_n 2, 1) := by decide +kernel
theorem dL_printed_204 : decode cL_printed 204 = .ok (.iconst 2, 1) := by decide +kernel
theorem dL_printed_205 : decode cL_printed 205 = .ok (.invokevirtual 26, 3) := by decide +kernel
theorem dL_printed_208 : decode cL_printed 208 = .ok (.ifCond .eq 5, 3) := by decide +kernel
theorem dL_printed_211 : decode cL_printed 211 = .ok (.iconst 0, 1) := by decide +kernel
theorem dL_printed_212 : decode cL_printed 212 = .ok (.ireturn, 1) := by decide +kernel
theorem dL_printed_213 : decode cL_printed 213 = .ok (.iinc 2 1, 3) := by decide +kernel
theorem dL_printed_216 : decode cL_printed 216 = .ok (.goto (-212), 3) := by decide +kernel
theorem dL_printed_219 : decode cL_printed 219 = .ok (.iload_n 1, 1) := by decide +kernel
theorem dL_printed_220 : decode cL_printed 220 = .ok (.aload_n 0, 1) := by decide +kernel
theorem dL_printed_221 : decode cL_printed 221 = .ok (.iconst 4, 1) := by decide +kernel
theorem dL_printed_222 : decode cL_printed 222 = .ok (.invokevirtual 9, 3) := by decide +kernel
theorem dL_printed_225 : decode cL_printed 225 = .ok (.if_icmp .ne 7, 3) := by decide +kernel
theorem dL_printed_228 : decode cL_printed 228 = .ok (.iconst 1, 1) := by decide +kernel
theorem dL_printed_229 : decode cL_printed 229 = .ok (.goto 4, 3) := by decide +kernel
theorem dL_printed_232 : decode cL_printed 232 = .ok (.iconst 0, 1) := by decide +kernel
theorem dL_printed_233 : decode cL_printed 233 = .ok (.ireturn, 1) := by decide +kernel
theorem dL_accounts_0 : decode cL_accounts 0 = .ok (.iconst 0, 1) := by decide +kernel
theorem dL_accounts_1 : decode cL_accounts 1 = .ok (.istore_n 1, 1) := by decide +kernel
theorem dL_accounts_2 : decode cL_accounts 2 = .ok (.iconst 0, 1) := by decide +kernel
theorem dL_accounts_3 : decode cL_accounts 3 = .ok (.istore_n 2, 1) := by decide +kernel
theorem dL_accounts_4 : decode cL_accounts 4 = .ok (.iconst 0, 1) := by decide +kernel
theorem dL_accounts_5 : decode cL_accounts 5 = .ok (.istore_n 3, 1) := by decide +kernel
theorem dL_accounts_6 : decode cL_accounts 6 = .ok (.iconst 0, 1) := by decide +kernel
theorem dL_accounts_7 : decode cL_accounts 7 = .ok (.istore 4, 2) := by decide +kernel
theorem dL_accounts_9 : decode cL_accounts 9 = .ok (.iconst 0, 1) := by decide +kernel
theorem dL_accounts_10 : decode cL_accounts 10 = .ok (.istore 5, 2) := by decide +kernel
theorem dL_accounts_12 : decode cL_accounts 12 = .ok (.iconst 0, 1) := by decide +kernel
theorem dL_accounts_13 : decode cL_accounts 13 = .ok (.istore 6, 2) := by decide +kernel
theorem dL_accounts_15 : decode cL_accounts 15 = .ok (.iload 6, 2) := by decide +kernel
theorem dL_accounts_17 : decode cL_accounts 17 = .ok (.iconst 3, 1) := by decide +kernel
theorem dL_accounts_18 : decode cL_accounts 18 = .ok (.if_icmp .ge 88, 3) := by decide +kernel
theorem dL_accounts_21 : decode cL_accounts 21 = .ok (.iload_n 1, 1) := by decide +kernel
theorem dL_accounts_22 : decode cL_accounts 22 = .ok (.aload_n 0, 1) := by decide +kernel
theorem dL_accounts_23 : decode cL_accounts 23 = .ok (.iload 6, 2) := by decide +kernel
theorem dL_accounts_25 : decode cL_accounts 25 = .ok (.iconst 5, 1) := by decide +kernel
theorem dL_accounts_26 : decode cL_accounts 26 = .ok (.invokevirtual 15, 3) := by decide +kernel
theorem dL_accounts_29 : decode cL_accounts 29 = .ok (.iadd, 1) := by decide +kernel
theorem dL_accounts_30 : decode cL_accounts 30 = .ok (.istore_n 1, 1) := by decide +kernel
theorem dL_accounts_31 : decode cL_accounts 31 = .ok (.iload_n 3, 1) := by decide +kernel
theorem dL_accounts_32 : decode cL_accounts 32 = .ok (.aload_n 0, 1) := by decide +kernel
theorem dL_accounts_33 : decode cL_accounts 33 = .ok (.iload 6, 2) := by decide +kernel
theorem dL_accounts_35 : decode cL_accounts 35 = .ok (.bipush 6, 2) := by decide +kernel
theorem dL_accounts_37 : decode cL_accounts 37 = .ok (.invokevirtual 15, 3) := by decide +kernel
theorem dL_accounts_40 : decode cL_accounts 40 = .ok (.iadd, 1) := by decide +kernel
theorem dL_accounts_41 : decode cL_accounts 41 = .ok (.istore_n 3, 1) := by decide +kernel
theorem dL_accounts_42 : decode cL_accounts 42 = .ok (.iload 4, 2) := by decide +kernel
theorem dL_accounts_44 : decode cL_accounts 44 = .ok (.aload_n 0, 1) := by decide +kernel
theorem dL_accounts_45 : decode cL_accounts 45 = .ok (.iload 6, 2) := by decide +kernel
theorem dL_accounts_47 : decode cL_accounts 47 = .ok (.bipush 7, 2) := by decide +kernel
theorem dL_accounts_49 : decode cL_accounts 49 = .ok (.invokevirtual 15, 3) := by decide +kernel
theorem dL_accounts_52 : decode cL_accounts 52 = .ok (.iadd, 1) := by decide +kernel
theorem dL_accounts_53 : decode cL_accounts 53 = .ok (.istore 4, 2) := by decide +kernel
theorem dL_accounts_55 : decode cL_accounts 55 = .ok (.iload 5, 2) := by decide +kernel
theorem dL_accounts_57 : decode cL_accounts 57 = .ok (.aload_n 0, 1) := by decide +kernel
theorem dL_accounts_58 : decode cL_accounts 58 = .ok (.iload 6, 2) := by decide +kernel
theorem dL_accounts_60 : decode cL_accounts 60 = .ok (.bipush 8, 2) := by decide +kernel
theorem dL_accounts_62 : decode cL_accounts 62 = .ok (.invokevirtual 15, 3) := by decide +kernel
theorem dL_accounts_65 : decode cL_accounts 65 = .ok (.iadd, 1) := by decide +kernel
theorem dL_accounts_66 : decode cL_accounts 66 = .ok (.istore 5, 2) := by decide +kernel
theorem dL_accounts_68 : decode cL_accounts 68 = .ok (.iload_n 2, 1) := by decide +kernel
theorem dL_accounts_69 : decode cL_accounts 69 = .ok (.aload_n 0, 1) := by decide +kernel
theorem dL_accounts_70 : decode cL_accounts 70 = .ok (.iload 6, 2) := by decide +kernel
theorem dL_accounts_72 : decode cL_accounts 72 = .ok (.bipush 9, 2) := by decide +kernel
theorem dL_accounts_74 : decode cL_accounts 74 = .ok (.invokevirtual 15, 3) := by decide +kernel
theorem dL_accounts_77 : decode cL_accounts 77 = .ok (.iadd, 1) := by decide +kernel
theorem dL_accounts_78 : decode cL_accounts 78 = .ok (.istore_n 2, 1) := by decide +kernel
theorem dL_accounts_79 : decode cL_accounts 79 = .ok (.aload_n 0, 1) := by decide +kernel
theorem dL_accounts_80 : decode cL_accounts 80 = .ok (.iload 6, 2) := by decide +kernel
theorem dL_accounts_82 : decode cL_accounts 82 = .ok (.bipush 8, 2) := by decide +kernel
theorem dL_accounts_84 : decode cL_accounts 84 = .ok (.invokevirtual 15, 3) := by decide +kernel
theorem dL_accounts_87 : decode cL_accounts 87 = .ok (.aload_n 0, 1) := by decide +kernel
theorem dL_accounts_88 : decode cL_accounts 88 = .ok (.iload 6, 2) := by decide +kernel
theorem dL_accounts_90 : decode cL_accounts 90 = .ok (.bipush 7, 2) := by decide +kernel
theorem dL_accounts_92 : decode cL_accounts 92 = .ok (.invokevirtual 15, 3) := by decide +kernel
theorem dL_accounts_95 : decode cL_accounts 95 = .ok (.if_icmp .le 5, 3) := by decide +kernel
theorem dL_accounts_98 : decode cL_accounts 98 = .ok (.iconst 0, 1) := by decide +kernel
theorem dL_accounts_99 : decode cL_accounts 99 = .ok (.ireturn, 1) := by decide +kernel
theorem dL_accounts_100 : decode cL_accounts 100 = .ok (.iinc 6 1, 3) := by decide +kernel
theorem dL_accounts_103 : decode cL_accounts 103 = .ok (.goto (-88), 3) := by decide +kernel
theorem dL_accounts_106 : decode cL_accounts 106 = .ok (.iload_n 1, 1) := by decide +kernel
theorem dL_accounts_107 : decode cL_accounts 107 = .ok (.aload_n 0, 1) := by decide +kernel
theorem dL_accounts_108 : decode cL_accounts 108 = .ok (.iconst 5, 1) := by decide +kernel
theorem dL_accounts_109 : decode cL_accounts 109 = .ok (.invokevirtual 9, 3) := by decide +kernel
theorem dL_accounts_112 : decode cL_accounts 112 = .ok (.if_icmp .ne 49, 3) := by decide +kernel
theorem dL_accounts_115 : decode cL_accounts 115 = .ok (.iload_n 2, 1) := by decide +kernel
theorem dL_accounts_116 : decode cL_accounts 116 = .ok (.aload_n 0, 1) := by decide +kernel
theorem dL_accounts_117 : decode cL_accounts 117 = .ok (.bipush 6, 2) := by decide +kernel
theorem dL_accounts_119 : decode cL_accounts 119 = .ok (.invokevirtual 9, 3) := by decide +kernel
theorem dL_accounts_122 : decode cL_accounts 122 = .ok (.if_icmp .ne 39, 3) := by decide +kernel
theorem dL_accounts_125 : decode cL_accounts 125 = .ok (.iload_n 3, 1) := by decide +kernel
theorem dL_accounts_126 : decode cL_accounts 126 = .ok (.aload_n 0, 1) := by decide +kernel
theorem dL_accounts_127 : decode cL_accounts 127 = .ok (.bipush 8, 2) := by decide +kernel
theorem dL_accounts_129 : decode cL_accounts 129 = .ok (.invokevirtual 9, 3) := by decide +kernel
theorem dL_accounts_132 : decode cL_accounts 132 = .ok (.if_icmp .ne 29, 3) := by decide +kernel
theorem dL_accounts_135 : decode cL_accounts 135 = .ok (.iload 4, 2) := by decide +kernel
theorem dL_accounts_137 : decode cL_accounts 137 = .ok (.aload_n 0, 1) := by decide +kernel
theorem dL_accounts_138 : decode cL_accounts 138 = .ok (.bipush 9, 2) := by decide +kernel
theorem dL_accounts_140 : decode cL_accounts 140 = .ok (.invokevirtual 9, 3) := by decide +kernel
theorem dL_accounts_143 : decode cL_accounts 143 = .ok (.if_icmp .ne 18, 3) := by decide +kernel
theorem dL_accounts_146 : decode cL_accounts 146 = .ok (.iload 5, 2) := by decide +kernel
theorem dL_accounts_148 : decode cL_accounts 148 = .ok (.aload_n 0, 1) := by decide +kernel
theorem dL_accounts_149 : decode cL_accounts 149 = .ok (.bipush 7, 2) := by decide +kernel
theorem dL_accounts_151 : decode cL_accounts 151 = .ok (.invokevirtual 9, 3) := by decide +kernel
theorem dL_accounts_154 : decode cL_accounts 154 = .ok (.if_icmp .lt 7, 3) := by decide +kernel
theorem dL_accounts_157 : decode cL_accounts 157 = .ok (.iconst 1, 1) := by decide +kernel
theorem dL_accounts_158 : decode cL_accounts 158 = .ok (.goto 4, 3) := by decide +kernel
theorem dL_accounts_161 : decode cL_accounts 161 = .ok (.iconst 0, 1) := by decide +kernel
theorem dL_accounts_162 : decode cL_accounts 162 = .ok (.ireturn, 1) := by decide +kernel
theorem dL_act_0 : decode cL_act 0 = .ok (.iload_n 1, 1) := by decide +kernel
theorem dL_act_1 : decode cL_act 1 = .ok (.iconst 3, 1) := by decide +kernel
theorem dL_act_2 : decode cL_act 2 = .ok (.ishr, 1) := by decide +kernel
theorem dL_act_3 : decode cL_act 3 = .ok (.bipush 12, 2) := by decide +kernel
theorem dL_act_5 : decode cL_act 5 = .ok (.invokestatic 32, 3) := by decide +kernel
theorem dL_act_8 : decode cL_act 8 = .ok (.istore_n 3, 1) := by decide +kernel
theorem dL_act_9 : decode cL_act 9 = .ok (.iload_n 3, 1) := by decide +kernel
theorem dL_act_10 : decode cL_act 10 = .ok (.bipush 6, 2) := by decide +kernel
theorem dL_act_12 : decode cL_act 12 = .ok (.if_icmp .ge 53, 3) := by decide +kernel
theorem dL_act_15 : decode cL_act 15 = .ok (.iload_n 2, 1) := by decide +kernel
theorem dL_act_16 : decode cL_act 16 = .ok (.iconst 2, 1) := by decide +kernel
theorem dL_act_17 : decode cL_act 17 = .ok (.ishr, 1) := by decide +kernel
theorem dL_act_18 : decode cL_act 18 = .ok (.iconst 4, 1) := by decide +kernel
theorem dL_act_19 : decode cL_act 19 = .ok (.invokestatic 32, 3) := by decide +kernel
theorem dL_act_22 : decode cL_act 22 = .ok (.istore 4, 2) := by decide +kernel
theorem dL_act_24 : decode cL_act 24 = .ok (.aload_n 0, 1) := by decide +kernel
theorem dL_act_25 : decode cL_act 25 = .ok (.iload_n 2, 1) := by decide +kernel
theorem dL_act_26 : decode cL_act 26 = .ok (.iconst 3, 1) := by decide +kernel
theorem dL_act_27 : decode cL_act 27 = .ok (.invokestatic 32, 3) := by decide +kernel
theorem dL_act_30 : decode cL_act 30 = .ok (.iload 4, 2) := by decide +kernel
theorem dL_act_32 : decode cL_act 32 = .ok (.iload_n 2, 1) := by decide +kernel
theorem dL_act_33 : decode cL_act 33 = .ok (.iconst 4, 1) := by decide +kernel
theorem dL_act_34 : decode cL_act 34 = .ok (.ishr, 1) := by decide +kernel
theorem dL_act_35 : decode cL_act 35 = .ok (.iload 4, 2) := by decide +kernel
theorem dL_act_37 : decode cL_act 37 = .ok (.iconst 2, 1) := by decide +kernel
theorem dL_act_38 : decode cL_act 38 = .ok (.if_icmp .ne 8, 3) := by decide +kernel
theorem dL_act_41 : decode cL_act 41 = .ok (.bipush 25, 2) := by decide +kernel
theorem dL_act_43 : decode cL_act 43 = .ok (.goto 15, 3) := by decide +kernel
theorem dL_act_46 : decode cL_act 46 = .ok (.iload 4, 2) := by decide +kernel
theorem dL_act_48 : decode cL_act 48 = .ok (.iconst 3, 1) := by decide +kernel
theorem dL_act_49 : decode cL_act 49 = .ok (.if_icmp .ne 7, 3) := by decide +kernel
theorem dL_act_52 : decode cL_act 52 = .ok (.iconst 3, 1) := by decide +kernel
theorem dL_act_53 : decode cL_act 53 = .ok (.goto 5, 3) := by decide +kernel
theorem dL_act_56 : decode cL_act 56 = .ok (.bipush 13, 2) := by decide +kernel
theorem dL_act_58 : decode cL_act 58 = .ok (.invokestatic 32, 3) := by decide +kernel
theorem dL_act_61 : decode cL_act 61 = .ok (.invokevirtual 37, 3) := by decide +kernel
theorem dL_act_64 : decode cL_act 64 = .ok (.ireturn, 1) := by decide +kernel
theorem dL_act_65 : decode cL_act 65 = .ok (.iload_n 3, 1) := by decide +kernel
theorem dL_act_66 : decode cL_act 66 = .ok (.bipush 6, 2) := by decide +kernel
theorem dL_act_68 : decode cL_act 68 = .ok (.if_icmp .ne 14, 3) := by decide +kernel
theorem dL_act_71 : decode cL_act 71 = .ok (.aload_n 0, 1) := by decide +kernel
theorem dL_act_72 : decode cL_act 72 = .ok (.iload_n 2, 1) := by decide +kernel
theorem dL_act_73 : decode cL_act 73 = .ok (.bipush 13, 2) := by decide +kernel
theorem dL_act_75 : decode cL_act 75 = .ok (.invokestatic 32, 3) := by decide +kernel
theorem dL_act_78 : decode cL_act 78 = .ok (.invokevirtual 40, 3) := by decide +kernel
theorem dL_act_81 : decode cL_act 81 = .ok (.ireturn, 1) := by decide +kernel
theorem dL_act_82 : decode cL_act 82 = .ok (.iload_n 3, 1) := by decide +kernel
theorem dL_act_83 : decode cL_act 83 = .ok (.bipush 7, 2) := by decide +kernel
theorem dL_act_85 : decode cL_act 85 = .ok (.if_icmp .ne 40, 3) := by decide +kernel
theorem dL_act_88 : decode cL_act 88 = .ok (.iload_n 2, 1) := by decide +kernel
theorem dL_act_89 : decode cL_act 89 = .ok (.iconst 2, 1) := by decide +kernel
theorem dL_act_90 : decode cL_act 90 = .ok (.invokestatic 32, 3) := by decide +kernel
theorem dL_act_93 : decode cL_act 93 = .ok (.ifCond .ne 18, 3) := by decide +kernel
theorem dL_act_96 : decode cL_act 96 = .ok (.aload_n 0, 1) := by decide +kernel
theorem dL_act_97 : decode cL_act 97 = .ok (.iconst 0, 1) := by decide +kernel
theorem dL_act_98 : decode cL_act 98 = .ok (.iload_n 2, 1) := by decide +kernel
theorem dL_act_99 : decode cL_act 99 = .ok (.iconst 2, 1) := by decide +kernel
theorem dL_act_100 : decode cL_act 100 = .ok (.ishr, 1) := by decide +kernel
theorem dL_act_101 : decode cL_act 101 = .ok (.iconst 3, 1) := by decide +kernel
theorem dL_act_102 : decode cL_act 102 = .ok (.invokestatic 32, 3) := by decide +kernel
theorem dL_act_105 : decode cL_act 105 = .ok (.invokevirtual 43, 3) := by decide +kernel
theorem dL_act_108 : decode cL_act 108 = .ok (.goto 16, 3) := by decide +kernel
theorem dL_act_111 : decode cL_act 111 = .ok (.aload_n 0, 1) := by decide +kernel
theorem dL_act_112 : decode cL_act 112 = .ok (.iconst 1, 1) := by decide +kernel
theorem dL_act_113 : decode cL_act 113 = .ok (.iload_n 2, 1) := by decide +kernel
theorem dL_act_114 : decode cL_act 114 = .ok (.iconst 2, 1) := by decide +kernel
theorem dL_act_115 : decode cL_act 115 = .ok (.ishr, 1) := by decide +kernel
theorem dL_act_116 : decode cL_act 116 = .ok (.bipush 10, 2) := by decide +kernel
theorem dL_act_118 : decode cL_act 118 = .ok (.invokestatic 32, 3) := by decide +kernel
theorem dL_act_121 : decode cL_act 121 = .ok (.invokevirtual 43, 3) := by decide +kernel
theorem dL_act_124 : decode cL_act 124 = .ok (.ireturn, 1) := by decide +kernel
theorem dL_act_125 : decode cL_act 125 = .ok (.iload_n 3, 1) := by decide +kernel
theorem dL_act_126 : decode cL_act 126 = .ok (.bipush 8, 2) := by decide +kernel
theorem dL_act_128 : decode cL_act 128 = .ok (.if_icmp .ne 16, 3) := by decide +kernel
theorem dL_act_131 : decode cL_act 131 = .ok (.aload_n 0, 1) := by decide +kernel
theorem dL_act_132 : decode cL_act 132 = .ok (.iload_n 2, 1) := by decide +kernel
theorem dL_act_133 : decode cL_act 133 = .ok (.ldc 46, 2) := by decide +kernel
theorem dL_act_135 : decode cL_act 135 = .ok (.invokestatic 32, 3) := by decide +kernel
theorem dL_act_138 : decode cL_act 138 = .ok (.invokevirtual 47, 3) := by decide +kernel
theorem dL_act_141 : decode cL_act 141 = .ok (.goto 25, 3) := by decide +kernel
theorem dL_act_144 : decode cL_act 144 = .ok (.aload_n 0, 1) := by decide +kernel
theorem dL_act_145 : decode cL_act 145 = .ok (.iconst 1, 1) := by decide +kernel
theorem dL_act_146 : decode cL_act 146 = .ok (.iload_n 2, 1) := by decide +kernel
theorem dL_act_147 : decode cL_act 147 = .ok (.iload_n 3, 1) := by decide +kernel
theorem dL_act_148 : decode cL_act 148 = .ok (.bipush 11, 2) := by decide +kernel
theorem dL_act_150 : decode cL_act 150 = .ok (.if_icmp .ne 8, 3) := by decide +kernel
theorem dL_act_153 : decode cL_act 153 = .ok (.bipush 30, 2) := by decide +kernel
theorem dL_act_155 : decode cL_act 155 = .ok (.goto 4, 3) := by decide +kernel
theorem dL_act_158 : decode cL_act 158 = .ok (.iconst 3, 1) := by decide +kernel
theorem dL_act_159 : decode cL_act 159 = .ok (.invokestatic 32, 3) := by decide +kernel
theorem dL_act_162 : decode cL_act 162 = .ok (.iadd, 1) := by decide +kernel
theorem dL_act_163 : decode cL_act 163 = .ok (.invokevirtual 50, 3) := by decide +kernel
theorem dL_act_166 : decode cL_act 166 = .ok (.ireturn, 1) := by decide +kernel
theorem dL_law_0 : decode cL_law 0 = .ok (.new 10, 3) := by decide +kernel
theorem dL_law_3 : decode cL_law 3 = .ok (.dup, 1) := by decide +kernel
theorem dL_law_4 : decode cL_law 4 = .ok (.invokespecial 53, 3) := by decide +kernel
theorem dL_law_7 : decode cL_law 7 = .ok (.astore_n 1, 1) := by decide +kernel
theorem dL_law_8 : decode cL_law 8 = .ok (.iconst 0, 1) := by decide +kernel
theorem dL_law_9 : decode cL_law 9 = .ok (.istore_n 2, 1) := by decide +kernel
theorem dL_law_10 : decode cL_law 10 = .ok (.iload_n 2, 1) := by decide +kernel
theorem dL_law_11 : decode cL_law 11 = .ok (.bipush 24, 2) := by decide +kernel
theorem dL_law_13 : decode cL_law 13 = .ok (.if_icmp .ge 390, 3) := by decide +kernel
theorem dL_law_16 : decode cL_law 16 = .ok (.aload_n 0, 1) := by decide +kernel
theorem dL_law_17 : decode cL_law 17 = .ok (.iconst 2, 1) := by decide +kernel
theorem dL_law_18 : decode cL_law 18 = .ok (.iload_n 2, 1) := by decide +kernel
theorem dL_law_19 : decode cL_law 19 = .ok (.imul, 1) := by decide +kernel
theorem dL_law_20 : decode cL_law 20 = .ok (.invokestatic 54, 3) := by decide +kernel
theorem dL_law_23 : decode cL_law 23 = .ok (.istore_n 3, 1) := by decide +kernel
theorem dL_law_24 : decode cL_law 24 = .ok (.aload_n 0, 1) := by decide +kernel
theorem dL_law_25 : decode cL_law 25 = .ok (.iconst 2, 1) := by decide +kernel
theorem dL_law_26 : decode cL_law 26 = .ok (.iload_n 2, 1) := by decide +kernel
theorem dL_law_27 : decode cL_law 27 = .ok (.imul, 1) := by decide +kernel
theorem dL_law_28 : decode cL_law 28 = .ok (.iconst 1, 1) := by decide +kernel
theorem dL_law_29 : decode cL_law 29 = .ok (.iadd, 1) := by decide +kernel
theorem dL_law_30 : decode cL_law 30 = .ok (.invokestatic 54, 3) := by decide +kernel
theorem dL_law_33 : decode cL_law 33 = .ok (.istore 4, 2) := by decide +kernel
theorem dL_law_35 : decode cL_law 35 = .ok (.aload_n 1, 1) := by decide +kernel
theorem dL_law_36 : decode cL_law 36 = .ok (.invokestatic 58, 3) := by decide +kernel
theorem dL_law_39 : decode cL_law 39 = .ok (.astore 5, 2) := by decide +kernel
theorem dL_law_41 : decode cL_law 41 = .ok (.aload_n 1, 1) := by decide +kernel
theorem dL_law_42 : decode cL_law 42 = .ok (.bipush 10, 2) := by decide +kernel
theorem dL_law_44 : decode cL_law 44 = .ok (.invokevirtual 9, 3) := by decide +kernel
theorem dL_law_47 : decode cL_law 47 = .ok (.istore 6, 2) := by decide +kernel
theorem dL_law_49 : decode cL_law 49 = .ok (.aload_n 1, 1) := by decide +kernel
theorem dL_law_50 : decode cL_law 50 = .ok (.iload_n 3, 1) := by decide +kernel
theorem dL_law_51 : decode cL_law 51 = .ok (.iload 4, 2) := by decide +kernel
theorem dL_law_53 : decode cL_law 53 = .ok (.invokestatic 62, 3) := by decide +kernel
theorem dL_law_56 : decode cL_law 56 = .ok (.istore 7, 2) := by decide +kernel
theorem dL_law_58 : decode cL_law 58 = .ok (.aload_n 1, 1) := by decide +kernel
theorem dL_law_59 : decode cL_law 59 = .ok (.invokestatic 58, 3) := by decide +kernel
theorem dL_law_62 : decode cL_law 62 = .ok (.astore 8, 2) := by decide +kernel
theorem dL_law_64 : decode cL_law 64 = .ok (.iload 7, 2) := by decide +kernel
theorem dL_law_66 : decode cL_law 66 = .ok (.ifCond .ge 26, 3) := by decide +kernel
theorem dL_law_69 : decode cL_law 69 = .ok (.aload 5, 2) := by decide +kernel
theorem dL_law_71 : decode cL_law 71 = .ok (.aload 8, 2) := by decide +kernel
theorem dL_law_73 : decode cL_law 73 = .ok (.invokestatic 66, 3) := by decide +kernel
theorem dL_law_76 : decode cL_law 76 = .ok (.ifCond .eq 14, 3) := by decide +kernel
theorem dL_law_79 : decode cL_law 79 = .ok (.aload_n 1, 1) := by decide +kernel
theorem dL_law_80 : decode cL_law 80 = .ok (.bipush 10, 2) := by decide +kernel
theorem dL_law_82 : decode cL_law 82 = .ok (.invokevirtual 9, 3) := by decide +kernel
theorem dL_law_85 : decode cL_law 85 = .ok (.iload 6, 2) := by decide +kernel
theorem dL_law_87 : decode cL_law 87 = .ok (.if_icmp .eq 5, 3) := by decide +kernel
theorem dL_law_90 : decode cL_law 90 = .ok (.iconst 0, 1) := by decide +kernel
theorem dL_law_91 : decode cL_law 91 = .ok (.ireturn, 1) := by decide +kernel
theorem dL_law_92 : decode cL_law 92 = .ok (.iload 7, 2) := by decide +kernel
theorem dL_law_94 : decode cL_law 94 = .ok (.ifCond .lt 72, 3) := by decide +kernel
theorem dL_law_97 : decode cL_law 97 = .ok (.iload_n 3, 1) := by decide +kernel
theorem dL_law_98 : decode cL_law 98 = .ok (.iconst 4, 1) := by decide +kernel
theorem dL_law_99 : decode cL_law 99 = .ok (.invokestatic 32, 3) := by decide +kernel
theorem dL_law_102 : decode cL_law 102 = .ok (.ifCond .ne 64, 3) := by decide +kernel
theorem dL_law_105 : decode cL_law 105 = .ok (.aload_n 1, 1) := by decide +kernel
theorem dL_law_106 : decode cL_law 106 = .ok (.invokevirtual 70, 3) := by decide +kernel
theorem dL_law_109 : decode cL_law 109 = .ok (.istore 9, 2) := by decide +kernel
theorem dL_law_111 : decode cL_law 111 = .ok (.aload_n 1, 1) := by decide +kernel
theorem dL_law_112 : decode cL_law 112 = .ok (.invokestatic 58, 3) := by decide +kernel
theorem dL_law_115 : decode cL_law 115 = .ok (.aload 5, 2) := by decide +kernel
theorem dL_law_117 : decode cL_law 117 = .ok (.invokestatic 66, 3) := by decide +kernel
theorem dL_law_120 : decode cL_law 120 = .ok (.ifCond .eq 44, 3) := by decide +kernel
theorem dL_law_123 : decode cL_law 123 = .ok (.iload 9, 2) := by decide +kernel
theorem dL_law_125 : decode cL_law 125 = .ok (.iload 6, 2) := by decide +kernel
theorem dL_law_127 : decode cL_law 127 = .ok (.iconst 4, 1) := by decide +kernel
theorem dL_law_128 : decode cL_law 128 = .ok (.if_icmp .ne 7, 3) := by decide +kernel
theorem dL_law_131 : decode cL_law 131 = .ok (.iconst 3, 1) := by decide +kernel
theorem dL_law_132 : decode cL_law 132 = .ok (.goto 5, 3) := by decide +kernel
theorem dL_law_135 : decode cL_law 135 = .ok (.iload 6, 2) := by decide +kernel
theorem dL_law_137 : decode cL_law 137 = .ok (.if_icmp .ne 27, 3) := by decide +kernel
theorem dL_law_140 : decode cL_law 140 = .ok (.aload_n 1, 1) := by decide +kernel
theorem dL_law_141 : decode cL_law 141 = .ok (.iload_n 3, 1) := by decide +kernel
theorem dL_law_142 : decode cL_law 142 = .ok (.iload 4, 2) := by decide +kernel
theorem dL_law_144 : decode cL_law 144 = .ok (.invokestatic 62, 3) := by decide +kernel
theorem dL_law_147 : decode cL_law 147 = .ok (.iload 7, 2) := by decide +kernel
theorem dL_law_149 : decode cL_law 149 = .ok (.if_icmp .ne 15, 3) := by decide +kernel
theorem dL_law_152 : decode cL_law 152 = .ok (.aload_n 1, 1) := by decide +kernel
theorem dL_law_153 : decode cL_law 153 = .ok (.invokestatic 58, 3) := by decide +kernel
theorem dL_law_156 : decode cL_law 156 = .ok (.aload 8, 2) := by decide +kernel
theorem dL_law_158 : decode cL_law 158 = .ok (.invokestatic 66, 3) := by decide +kernel
theorem dL_law_161 : decode cL_law 161 = .ok (.ifCond .ne 5, 3) := by decide +kernel
theorem dL_law_164 : decode cL_law 164 = .ok (.iconst 0, 1) := by decide +kernel
theorem dL_law_165 : decode cL_law 165 = .ok (.ireturn, 1) := by decide +kernel
theorem dL_law_166 : decode cL_law 166 = .ok (.aload_n 1, 1) := by decide +kernel
theorem dL_law_167 : decode cL_law 167 = .ok (.invokestatic 74, 3) := by decide +kernel
theorem dL_law_170 : decode cL_law 170 = .ok (.ifCond .eq 24, 3) := by decide +kernel
theorem dL_law_173 : decode cL_law 173 = .ok (.aload_n 1, 1) := by decide +kernel
theorem dL_law_174 : decode cL_law 174 = .ok (.invokestatic 77, 3) := by decide +kernel
theorem dL_law_177 : decode cL_law 177 = .ok (.ifCond .eq 17, 3) := by decide +kernel
theorem dL_law_180 : decode cL_law 180 = .ok (.iload_n 2, 1) := by decide +kernel
theorem dL_law_181 : decode cL_law 181 = .ok (.bipush 8, 2) := by decide +kernel
theorem dL_law_183 : decode cL_law 183 = .ok (.irem, 1) := by decide +kernel
theorem dL_law_184 : decode cL_law 184 = .ok (.ifCond .ne 12, 3) := by decide +kernel
theorem dL_law_187 : decode cL_law 187 = .ok (.aload_n 1, 1) := by decide +kernel
theorem dL_law_188 : decode cL_law 188 = .ok (.invokestatic 80, 3) := by decide +kernel
theorem dL_law_191 : decode cL_law 191 = .ok (.ifCond .ne 5, 3) := by decide +kernel
theorem dL_law_194 : decode cL_law 194 = .ok (.iconst 0, 1) := by decide +kernel
theorem dL_law_195 : decode cL_law 195 = .ok (.ireturn, 1) := by decide +kernel
theorem dL_law_196 : decode cL_law 196 = .ok (.iload_n 2, 1) := by decide +kernel
theorem dL_law_197 : decode cL_law 197 = .ok (.bipush 6, 2) := by decide +kernel
theorem dL_law_199 : decode cL_law 199 = .ok (.irem, 1) := by decide +kernel
theorem dL_law_200 : decode cL_law 200 = .ok (.iconst 5, 1) := by decide +kernel
theorem dL_law_201 : decode cL_law 201 = .ok (.if_icmp .ne 196, 3) := by decide +kernel
theorem dL_law_204 : decode cL_law 204 = .ok (.aload_n 1, 1) := by decide +kernel
theorem dL_law_205 : decode cL_law 205 = .ok (.iconst 0, 1) := by decide +kernel
theorem dL_law_206 : decode cL_law 206 = .ok (.invokevirtual 83, 3) := by decide +kernel
theorem dL_law_209 : decode cL_law 209 = .ok (.istore 9, 2) := by decide +kernel
theorem dL_law_211 : decode cL_law 211 = .ok (.aload_n 1, 1) := by decide +kernel
theorem dL_law_212 : decode cL_law 212 = .ok (.iconst 1, 1) := by decide +kernel
theorem dL_law_213 : decode cL_law 213 = .ok (.invokevirtual 83, 3) := by decide +kernel
theorem dL_law_216 : decode cL_law 216 = .ok (.istore 10, 2) := by decide +kernel
theorem dL_law_218 : decode cL_law 218 = .ok (.aload_n 1, 1) := by decide +kernel
theorem dL_law_219 : decode cL_law 219 = .ok (.iconst 5, 1) := by decide +kernel
theorem dL_law_220 : decode cL_law 220 = .ok (.invokevirtual 83, 3) := by decide +kernel
theorem dL_law_223 : decode cL_law 223 = .ok (.istore 11, 2) := by decide +kernel
theorem dL_law_225 : decode cL_law 225 = .ok (.aload_n 1, 1) := by decide +kernel
theorem dL_law_226 : decode cL_law 226 = .ok (.iconst 4, 1) := by decide +kernel
theorem dL_law_227 : decode cL_law 227 = .ok (.invokevirtual 9, 3) := by decide +kernel
theorem dL_law_230 : decode cL_law 230 = .ok (.istore 12, 2) := by decide +kernel
theorem dL_law_232 : decode cL_law 232 = .ok (.aload_n 1, 1) := by decide +kernel
theorem dL_law_233 : decode cL_law 233 = .ok (.bipush 6, 2) := by decide +kernel
theorem dL_law_235 : decode cL_law 235 = .ok (.invokevirtual 9, 3) := by decide +kernel
theorem dL_law_238 : decode cL_law 238 = .ok (.istore 13, 2) := by decide +kernel
theorem dL_law_240 : decode cL_law 240 = .ok (.aload_n 1, 1) := by decide +kernel
theorem dL_law_241 : decode cL_law 241 = .ok (.iconst 1, 1) := by decide +kernel
theorem dL_law_242 : decode cL_law 242 = .ok (.invokevirtual 50, 3) := by decide +kernel
theorem dL_law_245 : decode cL_law 245 = .ok (.iload 9, 2) := by decide +kernel
theorem dL_law_247 : decode cL_law 247 = .ok (.if_icmp .ne 27, 3) := by decide +kernel
theorem dL_law_250 : decode cL_law 250 = .ok (.aload_n 1, 1) := by decide +kernel
theorem dL_law_251 : decode cL_law 251 = .ok (.bipush 6, 2) := by decide +kernel
theorem dL_law_253 : decode cL_law 253 = .ok (.invokevirtual 9, 3) := by decide +kernel
theorem dL_law_256 : decode cL_law 256 = .ok (.iload 13, 2) := by decide +kernel
theorem dL_law_258 : decode cL_law 258 = .ok (.isub, 1) := by decide +kernel
theorem dL_law_259 : decode cL_law 259 = .ok (.iload 10, 2) := by decide +kernel
theorem dL_law_261 : decode cL_law 261 = .ok (.if_icmp .ne 13, 3) := by decide +kernel
theorem dL_law_264 : decode cL_law 264 = .ok (.iload 9, 2) := by decide +kernel
theorem dL_law_266 : decode cL_law 266 = .ok (.iload 10, 2) := by decide +kernel
theorem dL_law_268 : decode cL_law 268 = .ok (.iadd, 1) := by decide +kernel
theorem dL_law_269 : decode cL_law 269 = .ok (.iload 12, 2) := by decide +kernel
theorem dL_law_271 : decode cL_law 271 = .ok (.if_icmp .eq 5, 3) := by decide +kernel
theorem dL_law_274 : decode cL_law 274 = .ok (.iconst 0, 1) := by decide +kernel
theorem dL_law_275 : decode cL_law 275 = .ok (.ireturn, 1) := by decide +kernel
theorem dL_law_276 : decode cL_law 276 = .ok (.iconst 0, 1) := by decide +kernel
theorem dL_law_277 : decode cL_law 277 = .ok (.istore 14, 2) := by decide +kernel
theorem dL_law_279 : decode cL_law 279 = .ok (.iload 14, 2) := by decide +kernel
theorem dL_law_281 : decode cL_law 281 = .ok (.iconst 3, 1) := by decide +kernel
theorem dL_law_282 : decode cL_law 282 = .ok (.if_icmp .ge 37, 3) := by decide +kernel
theorem dL_law_285 : decode cL_law 285 = .ok (.iload 11, 2) := by decide +kernel
theorem dL_law_287 : decode cL_law 287 = .ok (.iload 14, 2) := by decide +kernel
theorem dL_law_289 : decode cL_law 289 = .ok (.ishr, 1) := by decide +kernel
theorem dL_law_290 : decode cL_law 290 = .ok (.iconst 1, 1) := by decide +kernel
theorem dL_law_291 : decode cL_law 291 = .ok (.iand, 1) := by decide +kernel
theorem dL_law_292 : decode cL_law 292 = .ok (.iconst 1, 1) := by decide +kernel
theorem dL_law_293 : decode cL_law 293 = .ok (.if_icmp .ne 20, 3) := by decide +kernel
theorem dL_law_296 : decode cL_law 296 = .ok (.aload_n 1, 1) := by decide +kernel
theorem dL_law_297 : decode cL_law 297 = .ok (.iload 14, 2) := by decide +kernel
theorem dL_law_299 : decode cL_law 299 = .ok (.iconst 0, 1) := by decide +kernel
theorem dL_law_300 : decode cL_law 300 = .ok (.invokevirtual 15, 3) := by decide +kernel
theorem dL_law_303 : decode cL_law 303 = .ok (.aload_n 1, 1) := by decide +kernel
theorem dL_law_304 : decode cL_law 304 = .ok (.iconst 1, 1) := by decide +kernel
theorem dL_law_305 : decode cL_law 305 = .ok (.invokevirtual 9, 3) := by decide +kernel
theorem dL_law_308 : decode cL_law 308 = .ok (.if_icmp .eq 5, 3) := by decide +kernel
theorem dL_law_311 : decode cL_law 311 = .ok (.iconst 0, 1) := by decide +kernel
theorem dL_law_312 : decode cL_law 312 = .ok (.ireturn, 1) := by decide +kernel
theorem dL_law_313 : decode cL_law 313 = .ok (.iinc 14 1, 3) := by decide +kernel
theorem dL_law_316 : decode cL_law 316 = .ok (.goto (-37), 3) := by decide +kernel
theorem dL_law_319 : decode cL_law 319 = .ok (.aload_n 1, 1) := by decide +kernel
theorem dL_law_320 : decode cL_law 320 = .ok (.iload_n 2, 1) := by decide +kernel
theorem dL_law_321 : decode cL_law 321 = .ok (.iconst 3, 1) := by decide +kernel
theorem dL_law_322 : decode cL_law 322 = .ok (.irem, 1) := by decide +kernel
theorem dL_law_323 : decode cL_law 323 = .ok (.invokevirtual 86, 3) := by decide +kernel
theorem dL_law_326 : decode cL_law 326 = .ok (.istore 14, 2) := by decide +kernel
theorem dL_law_328 : decode cL_law 328 = .ok (.aload_n 1, 1) := by decide +kernel
theorem dL_law_329 : decode cL_law 329 = .ok (.iload_n 2, 1) := by decide +kernel
theorem dL_law_330 : decode cL_law 330 = .ok (.iconst 3, 1) := by decide +kernel
theorem dL_law_331 : decode cL_law 331 = .ok (.irem, 1) := by decide +kernel
theorem dL_law_332 : decode cL_law 332 = .ok (.iconst 2, 1) := by decide +kernel
theorem dL_law_333 : decode cL_law 333 = .ok (.invokevirtual 15, 3) := by decide +kernel
theorem dL_law_336 : decode cL_law 336 = .ok (.istore 15, 2) := by decide +kernel
theorem dL_law_338 : decode cL_law 338 = .ok (.aload_n 1, 1) := by decide +kernel
theorem dL_law_339 : decode cL_law 339 = .ok (.iconst 3, 1) := by decide +kernel
theorem dL_law_340 : decode cL_law 340 = .ok (.invokevirtual 9, 3) := by decide +kernel
theorem dL_law_343 : decode cL_law 343 = .ok (.istore 16, 2) := by decide +kernel
theorem dL_law_345 : decode cL_law 345 = .ok (.aload_n 1, 1) := by decide +kernel
theorem dL_law_346 : decode cL_law 346 = .ok (.iload_n 2, 1) := by decide +kernel
theorem dL_law_347 : decode cL_law 347 = .ok (.iconst 3, 1) := by decide +kernel
theorem dL_law_348 : decode cL_law 348 = .ok (.irem, 1) := by decide +kernel
theorem dL_law_349 : decode cL_law 349 = .ok (.iconst 2, 1) := by decide +kernel
theorem dL_law_350 : decode cL_law 350 = .ok (.iload 14, 2) := by decide +kernel
theorem dL_law_352 : decode cL_law 352 = .ok (.invokevirtual 37, 3) := by decide +kernel
theorem dL_law_355 : decode cL_law 355 = .ok (.pop, 1) := by decide +kernel
theorem dL_law_356 : decode cL_law 356 = .ok (.aload_n 1, 1) := by decide +kernel
theorem dL_law_357 : decode cL_law 357 = .ok (.iconst 3, 1) := by decide +kernel
theorem dL_law_358 : decode cL_law 358 = .ok (.invokevirtual 9, 3) := by decide +kernel
theorem dL_law_361 : decode cL_law 361 = .ok (.iload 16, 2) := by decide +kernel
theorem dL_law_363 : decode cL_law 363 = .ok (.if_icmp .gt 32, 3) := by decide +kernel
theorem dL_law_366 : decode cL_law 366 = .ok (.aload_n 1, 1) := by decide +kernel
theorem dL_law_367 : decode cL_law 367 = .ok (.iload_n 2, 1) := by decide +kernel
theorem dL_law_368 : decode cL_law 368 = .ok (.iconst 3, 1) := by decide +kernel
theorem dL_law_369 : decode cL_law 369 = .ok (.irem, 1) := by decide +kernel
theorem dL_law_370 : decode cL_law 370 = .ok (.invokevirtual 86, 3) := by decide +kernel
theorem dL_law_373 : decode cL_law 373 = .ok (.iload 14, 2) := by decide +kernel
theorem dL_law_375 : decode cL_law 375 = .ok (.if_icmp .ne 20, 3) := by decide +kernel
theorem dL_law_378 : decode cL_law 378 = .ok (.iload 15, 2) := by decide +kernel
theorem dL_law_380 : decode cL_law 380 = .ok (.iload 14, 2) := by decide +kernel
theorem dL_law_382 : decode cL_law 382 = .ok (.if_icmp .ne 15, 3) := by decide +kernel
theorem dL_law_385 : decode cL_law 385 = .ok (.aload_n 1, 1) := by decide +kernel
theorem dL_law_386 : decode cL_law 386 = .ok (.iconst 3, 1) := by decide +kernel
theorem dL_law_387 : decode cL_law 387 = .ok (.invokevirtual 9, 3) := by decide +kernel
theorem dL_law_390 : decode cL_law 390 = .ok (.iload 16, 2) := by decide +kernel
theorem dL_law_392 : decode cL_law 392 = .ok (.if_icmp .eq 5, 3) := by decide +kernel
theorem dL_law_395 : decode cL_law 395 = .ok (.iconst 0, 1) := by decide +kernel
theorem dL_law_396 : decode cL_law 396 = .ok (.ireturn, 1) := by decide +kernel
theorem dL_law_397 : decode cL_law 397 = .ok (.iinc 2 1, 3) := by decide +kernel
theorem dL_law_400 : decode cL_law 400 = .ok (.goto (-390), 3) := by decide +kernel
theorem dL_law_403 : decode cL_law 403 = .ok (.aload_n 1, 1) := by decide +kernel
theorem dL_law_404 : decode cL_law 404 = .ok (.iconst 3, 1) := by decide +kernel
theorem dL_law_405 : decode cL_law 405 = .ok (.iconst 0, 1) := by decide +kernel
theorem dL_law_406 : decode cL_law 406 = .ok (.invokevirtual 15, 3) := by decide +kernel
theorem dL_law_409 : decode cL_law 409 = .ok (.iconst (-1), 1) := by decide +kernel
theorem dL_law_410 : decode cL_law 410 = .ok (.if_icmp .ne 28, 3) := by decide +kernel
theorem dL_law_413 : decode cL_law 413 = .ok (.aload_n 1, 1) := by decide +kernel
theorem dL_law_414 : decode cL_law 414 = .ok (.iconst 2, 1) := by decide +kernel
theorem dL_law_415 : decode cL_law 415 = .ok (.iconst 0, 1) := by decide +kernel
theorem dL_law_416 : decode cL_law 416 = .ok (.invokevirtual 29, 3) := by decide +kernel
theorem dL_law_419 : decode cL_law 419 = .ok (.iconst (-1), 1) := by decide +kernel
theorem dL_law_420 : decode cL_law 420 = .ok (.if_icmp .ne 18, 3) := by decide +kernel
theorem dL_law_423 : decode cL_law 423 = .ok (.aload_n 1, 1) := by decide +kernel
theorem dL_law_424 : decode cL_law 424 = .ok (.iconst 0, 1) := by decide +kernel
theorem dL_law_425 : decode cL_law 425 = .ok (.bipush 24, 2) := by decide +kernel
theorem dL_law_427 : decode cL_law 427 = .ok (.invokevirtual 29, 3) := by decide +kernel
theorem dL_law_430 : decode cL_law 430 = .ok (.iconst (-1), 1) := by decide +kernel
theorem dL_law_431 : decode cL_law 431 = .ok (.if_icmp .ne 7, 3) := by decide +kernel
theorem dL_law_434 : decode cL_law 434 = .ok (.iconst 1, 1) := by decide +kernel
theorem dL_law_435 : decode cL_law 435 = .ok (.goto 4, 3) := by decide +kernel
theorem dL_law_438 : decode cL_law 438 = .ok (.iconst 0, 1) := by decide +kernel
theorem dL_law_439 : decode cL_law 439 = .ok (.ireturn, 1) := by decide +kernel
