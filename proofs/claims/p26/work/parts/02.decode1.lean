theorem dX0_init_0 : decode cX0_init 0 = .ok (.aload_n 0, 1) := by decide +kernel
theorem dX0_init_1 : decode cX0_init 1 = .ok (.invokespecial 3, 3) := by decide +kernel
theorem dX0_init_4 : decode cX0_init 4 = .ok (.aload_n 0, 1) := by decide +kernel
theorem dX0_init_5 : decode cX0_init 5 = .ok (.bipush 60, 2) := by decide +kernel
theorem dX0_init_7 : decode cX0_init 7 = .ok (.newarray .char, 2) := by decide +kernel
theorem dX0_init_9 : decode cX0_init 9 = .ok (.putfield 9, 3) := by decide +kernel
theorem dX0_init_12 : decode cX0_init 12 = .ok (.aload_n 0, 1) := by decide +kernel
theorem dX0_init_13 : decode cX0_init 13 = .ok (.iconst 0, 1) := by decide +kernel
theorem dX0_init_14 : decode cX0_init 14 = .ok (.putfield 15, 3) := by decide +kernel
theorem dX0_init_17 : decode cX0_init 17 = .ok (.aload_n 0, 1) := by decide +kernel
theorem dX0_init_18 : decode cX0_init 18 = .ok (.iconst 0, 1) := by decide +kernel
theorem dX0_init_19 : decode cX0_init 19 = .ok (.putfield 19, 3) := by decide +kernel
theorem dX0_init_22 : decode cX0_init 22 = .ok (.aload_n 0, 1) := by decide +kernel
theorem dX0_init_23 : decode cX0_init 23 = .ok (.iconst 0, 1) := by decide +kernel
theorem dX0_init_24 : decode cX0_init 24 = .ok (.putfield 22, 3) := by decide +kernel
theorem dX0_init_27 : decode cX0_init 27 = .ok (.aload_n 0, 1) := by decide +kernel
theorem dX0_init_28 : decode cX0_init 28 = .ok (.iconst 0, 1) := by decide +kernel
theorem dX0_init_29 : decode cX0_init 29 = .ok (.putfield 25, 3) := by decide +kernel
theorem dX0_init_32 : decode cX0_init 32 = .ok (.aload_n 0, 1) := by decide +kernel
theorem dX0_init_33 : decode cX0_init 33 = .ok (.iconst 0, 1) := by decide +kernel
theorem dX0_init_34 : decode cX0_init 34 = .ok (.putfield 28, 3) := by decide +kernel
theorem dX0_init_37 : decode cX0_init 37 = .ok (.aload_n 0, 1) := by decide +kernel
theorem dX0_init_38 : decode cX0_init 38 = .ok (.iconst 0, 1) := by decide +kernel
theorem dX0_init_39 : decode cX0_init 39 = .ok (.putfield 31, 3) := by decide +kernel
theorem dX0_init_42 : decode cX0_init 42 = .ok (.return_, 1) := by decide +kernel
theorem dX1_init_0 : decode cX1_init 0 = .ok (.aload_n 0, 1) := by decide +kernel
theorem dX1_init_1 : decode cX1_init 1 = .ok (.invokespecial 3, 3) := by decide +kernel
theorem dX1_init_4 : decode cX1_init 4 = .ok (.aload_n 0, 1) := by decide +kernel
theorem dX1_init_5 : decode cX1_init 5 = .ok (.iconst 3, 1) := by decide +kernel
theorem dX1_init_6 : decode cX1_init 6 = .ok (.anewarray 9, 3) := by decide +kernel
theorem dX1_init_9 : decode cX1_init 9 = .ok (.dup, 1) := by decide +kernel
theorem dX1_init_10 : decode cX1_init 10 = .ok (.iconst 0, 1) := by decide +kernel
theorem dX1_init_11 : decode cX1_init 11 = .ok (.new 9, 3) := by decide +kernel
theorem dX1_init_14 : decode cX1_init 14 = .ok (.dup, 1) := by decide +kernel
theorem dX1_init_15 : decode cX1_init 15 = .ok (.invokespecial 11, 3) := by decide +kernel
theorem dX1_init_18 : decode cX1_init 18 = .ok (.aastore, 1) := by decide +kernel
theorem dX1_init_19 : decode cX1_init 19 = .ok (.dup, 1) := by decide +kernel
theorem dX1_init_20 : decode cX1_init 20 = .ok (.iconst 1, 1) := by decide +kernel
theorem dX1_init_21 : decode cX1_init 21 = .ok (.new 9, 3) := by decide +kernel
theorem dX1_init_24 : decode cX1_init 24 = .ok (.dup, 1) := by decide +kernel
theorem dX1_init_25 : decode cX1_init 25 = .ok (.invokespecial 11, 3) := by decide +kernel
theorem dX1_init_28 : decode cX1_init 28 = .ok (.aastore, 1) := by decide +kernel
theorem dX1_init_29 : decode cX1_init 29 = .ok (.dup, 1) := by decide +kernel
theorem dX1_init_30 : decode cX1_init 30 = .ok (.iconst 2, 1) := by decide +kernel
theorem dX1_init_31 : decode cX1_init 31 = .ok (.new 9, 3) := by decide +kernel
theorem dX1_init_34 : decode cX1_init 34 = .ok (.dup, 1) := by decide +kernel
theorem dX1_init_35 : decode cX1_init 35 = .ok (.invokespecial 11, 3) := by decide +kernel
theorem dX1_init_38 : decode cX1_init 38 = .ok (.aastore, 1) := by decide +kernel
theorem dX1_init_39 : decode cX1_init 39 = .ok (.putfield 12, 3) := by decide +kernel
theorem dX1_init_42 : decode cX1_init 42 = .ok (.aload_n 0, 1) := by decide +kernel
theorem dX1_init_43 : decode cX1_init 43 = .ok (.bipush 48, 2) := by decide +kernel
theorem dX1_init_45 : decode cX1_init 45 = .ok (.newarray .int, 2) := by decide +kernel
theorem dX1_init_47 : decode cX1_init 47 = .ok (.putfield 18, 3) := by decide +kernel
theorem dX1_init_50 : decode cX1_init 50 = .ok (.return_, 1) := by decide +kernel
theorem dX1_placeOf_0 : decode cX1_placeOf 0 = .ok (.iload_n 0, 1) := by decide +kernel
theorem dX1_placeOf_1 : decode cX1_placeOf 1 = .ok (.iconst 2, 1) := by decide +kernel
theorem dX1_placeOf_2 : decode cX1_placeOf 2 = .ok (.imul, 1) := by decide +kernel
theorem dX1_placeOf_3 : decode cX1_placeOf 3 = .ok (.iload_n 1, 1) := by decide +kernel
theorem dX1_placeOf_4 : decode cX1_placeOf 4 = .ok (.iadd, 1) := by decide +kernel
theorem dX1_placeOf_5 : decode cX1_placeOf 5 = .ok (.ireturn, 1) := by decide +kernel
theorem dX1_print_0 : decode cX1_print 0 = .ok (.iconst 0, 1) := by decide +kernel
theorem dX1_print_1 : decode cX1_print 1 = .ok (.istore_n 2, 1) := by decide +kernel
theorem dX1_print_2 : decode cX1_print 2 = .ok (.iload_n 2, 1) := by decide +kernel
theorem dX1_print_3 : decode cX1_print 3 = .ok (.aload_n 0, 1) := by decide +kernel
theorem dX1_print_4 : decode cX1_print 4 = .ok (.getfield 18, 3) := by decide +kernel
theorem dX1_print_7 : decode cX1_print 7 = .ok (.arraylength, 1) := by decide +kernel
theorem dX1_print_8 : decode cX1_print 8 = .ok (.if_icmp .ge 16, 3) := by decide +kernel
theorem dX1_print_11 : decode cX1_print 11 = .ok (.aload_n 0, 1) := by decide +kernel
theorem dX1_print_12 : decode cX1_print 12 = .ok (.getfield 18, 3) := by decide +kernel
theorem dX1_print_15 : decode cX1_print 15 = .ok (.iload_n 2, 1) := by decide +kernel
theorem dX1_print_16 : decode cX1_print 16 = .ok (.iconst 0, 1) := by decide +kernel
theorem dX1_print_17 : decode cX1_print 17 = .ok (.iastore, 1) := by decide +kernel
theorem dX1_print_18 : decode cX1_print 18 = .ok (.iinc 2 1, 3) := by decide +kernel
theorem dX1_print_21 : decode cX1_print 21 = .ok (.goto (-19), 3) := by decide +kernel
theorem dX1_print_24 : decode cX1_print 24 = .ok (.iconst 0, 1) := by decide +kernel
theorem dX1_print_25 : decode cX1_print 25 = .ok (.istore_n 2, 1) := by decide +kernel
theorem dX1_print_26 : decode cX1_print 26 = .ok (.iload_n 2, 1) := by decide +kernel
theorem dX1_print_27 : decode cX1_print 27 = .ok (.iconst 3, 1) := by decide +kernel
theorem dX1_print_28 : decode cX1_print 28 = .ok (.if_icmp .ge 37, 3) := by decide +kernel
theorem dX1_print_31 : decode cX1_print 31 = .ok (.aload_n 0, 1) := by decide +kernel
theorem dX1_print_32 : decode cX1_print 32 = .ok (.getfield 12, 3) := by decide +kernel
theorem dX1_print_35 : decode cX1_print 35 = .ok (.iload_n 2, 1) := by decide +kernel
theorem dX1_print_36 : decode cX1_print 36 = .ok (.aaload, 1) := by decide +kernel
theorem dX1_print_37 : decode cX1_print 37 = .ok (.aload_n 1, 1) := by decide +kernel
theorem dX1_print_38 : decode cX1_print 38 = .ok (.getfield 22, 3) := by decide +kernel
theorem dX1_print_41 : decode cX1_print 41 = .ok (.iload_n 2, 1) := by decide +kernel
theorem dX1_print_42 : decode cX1_print 42 = .ok (.aaload, 1) := by decide +kernel
theorem dX1_print_43 : decode cX1_print 43 = .ok (.invokevirtual 28, 3) := by decide +kernel
theorem dX1_print_46 : decode cX1_print 46 = .ok (.aload_n 0, 1) := by decide +kernel
theorem dX1_print_47 : decode cX1_print 47 = .ok (.aload_n 0, 1) := by decide +kernel
theorem dX1_print_48 : decode cX1_print 48 = .ok (.getfield 12, 3) := by decide +kernel
theorem dX1_print_51 : decode cX1_print 51 = .ok (.iload_n 2, 1) := by decide +kernel
theorem dX1_print_52 : decode cX1_print 52 = .ok (.aaload, 1) := by decide +kernel
theorem dX1_print_53 : decode cX1_print 53 = .ok (.iconst 1, 1) := by decide +kernel
theorem dX1_print_54 : decode cX1_print 54 = .ok (.iload_n 2, 1) := by decide +kernel
theorem dX1_print_55 : decode cX1_print 55 = .ok (.ishl, 1) := by decide +kernel
theorem dX1_print_56 : decode cX1_print 56 = .ok (.invokevirtual 32, 3) := by decide +kernel
theorem dX1_print_59 : decode cX1_print 59 = .ok (.iinc 2 1, 3) := by decide +kernel
theorem dX1_print_62 : decode cX1_print 62 = .ok (.goto (-36), 3) := by decide +kernel
theorem dX1_print_65 : decode cX1_print 65 = .ok (.return_, 1) := by decide +kernel
theorem dX1_noteUses_0 : decode cX1_noteUses 0 = .ok (.iconst 0, 1) := by decide +kernel
theorem dX1_noteUses_1 : decode cX1_noteUses 1 = .ok (.istore_n 3, 1) := by decide +kernel
theorem dX1_noteUses_2 : decode cX1_noteUses 2 = .ok (.iload_n 3, 1) := by decide +kernel
theorem dX1_noteUses_3 : decode cX1_noteUses 3 = .ok (.aload_n 1, 1) := by decide +kernel
theorem dX1_noteUses_4 : decode cX1_noteUses 4 = .ok (.getfield 36, 3) := by decide +kernel
theorem dX1_noteUses_7 : decode cX1_noteUses 7 = .ok (.if_icmp .ge 50, 3) := by decide +kernel
theorem dX1_noteUses_10 : decode cX1_noteUses 10 = .ok (.aload_n 1, 1) := by decide +kernel
theorem dX1_noteUses_11 : decode cX1_noteUses 11 = .ok (.iload_n 3, 1) := by decide +kernel
theorem dX1_noteUses_12 : decode cX1_noteUses 12 = .ok (.invokevirtual 40, 3) := by decide +kernel
theorem dX1_noteUses_15 : decode cX1_noteUses 15 = .ok (.istore 4, 2) := by decide +kernel
theorem dX1_noteUses_17 : decode cX1_noteUses 17 = .ok (.aload_n 0, 1) := by decide +kernel
theorem dX1_noteUses_18 : decode cX1_noteUses 18 = .ok (.iload 4, 2) := by decide +kernel
theorem dX1_noteUses_20 : decode cX1_noteUses 20 = .ok (.aload_n 1, 1) := by decide +kernel
theorem dX1_noteUses_21 : decode cX1_noteUses 21 = .ok (.iload_n 3, 1) := by decide +kernel
theorem dX1_noteUses_22 : decode cX1_noteUses 22 = .ok (.invokevirtual 44, 3) := by decide +kernel
theorem dX1_noteUses_25 : decode cX1_noteUses 25 = .ok (.invokestatic 47, 3) := by decide +kernel
theorem dX1_noteUses_28 : decode cX1_noteUses 28 = .ok (.iload_n 2, 1) := by decide +kernel
theorem dX1_noteUses_29 : decode cX1_noteUses 29 = .ok (.invokevirtual 51, 3) := by decide +kernel
theorem dX1_noteUses_32 : decode cX1_noteUses 32 = .ok (.aload_n 0, 1) := by decide +kernel
theorem dX1_noteUses_33 : decode cX1_noteUses 33 = .ok (.iload 4, 2) := by decide +kernel
theorem dX1_noteUses_35 : decode cX1_noteUses 35 = .ok (.iconst 2, 1) := by decide +kernel
theorem dX1_noteUses_36 : decode cX1_noteUses 36 = .ok (.iadd, 1) := by decide +kernel
theorem dX1_noteUses_37 : decode cX1_noteUses 37 = .ok (.aload_n 1, 1) := by decide +kernel
theorem dX1_noteUses_38 : decode cX1_noteUses 38 = .ok (.iload_n 3, 1) := by decide +kernel
theorem dX1_noteUses_39 : decode cX1_noteUses 39 = .ok (.iconst 1, 1) := by decide +kernel
theorem dX1_noteUses_40 : decode cX1_noteUses 40 = .ok (.iadd, 1) := by decide +kernel
theorem dX1_noteUses_41 : decode cX1_noteUses 41 = .ok (.invokevirtual 44, 3) := by decide +kernel
theorem dX1_noteUses_44 : decode cX1_noteUses 44 = .ok (.invokestatic 47, 3) := by decide +kernel
theorem dX1_noteUses_47 : decode cX1_noteUses 47 = .ok (.iload_n 2, 1) := by decide +kernel
theorem dX1_noteUses_48 : decode cX1_noteUses 48 = .ok (.invokevirtual 51, 3) := by decide +kernel
theorem dX1_noteUses_51 : decode cX1_noteUses 51 = .ok (.iinc 3 1, 3) := by decide +kernel
theorem dX1_noteUses_54 : decode cX1_noteUses 54 = .ok (.goto (-52), 3) := by decide +kernel
theorem dX1_noteUses_57 : decode cX1_noteUses 57 = .ok (.return_, 1) := by decide +kernel
theorem dX1_noteUse_0 : decode cX1_noteUse 0 = .ok (.iload_n 1, 1) := by decide +kernel
theorem dX1_noteUse_1 : decode cX1_noteUse 1 = .ok (.ifCond .lt 22, 3) := by decide +kernel
theorem dX1_noteUse_4 : decode cX1_noteUse 4 = .ok (.iload_n 1, 1) := by decide +kernel
theorem dX1_noteUse_5 : decode cX1_noteUse 5 = .ok (.aload_n 0, 1) := by decide +kernel
theorem dX1_noteUse_6 : decode cX1_noteUse 6 = .ok (.getfield 18, 3) := by decide +kernel
theorem dX1_noteUse_9 : decode cX1_noteUse 9 = .ok (.arraylength, 1) := by decide +kernel
theorem dX1_noteUse_10 : decode cX1_noteUse 10 = .ok (.if_icmp .ge 13, 3) := by decide +kernel
theorem dX1_noteUse_13 : decode cX1_noteUse 13 = .ok (.aload_n 0, 1) := by decide +kernel
theorem dX1_noteUse_14 : decode cX1_noteUse 14 = .ok (.getfield 18, 3) := by decide +kernel
theorem dX1_noteUse_17 : decode cX1_noteUse 17 = .ok (.iload_n 1, 1) := by decide +kernel
theorem dX1_noteUse_18 : decode cX1_noteUse 18 = .ok (.dup2, 1) := by decide +kernel
theorem dX1_noteUse_19 : decode cX1_noteUse 19 = .ok (.iaload, 1) := by decide +kernel
theorem dX1_noteUse_20 : decode cX1_noteUse 20 = .ok (.iload_n 2, 1) := by decide +kernel
theorem dX1_noteUse_21 : decode cX1_noteUse 21 = .ok (.ior, 1) := by decide +kernel
theorem dX1_noteUse_22 : decode cX1_noteUse 22 = .ok (.iastore, 1) := by decide +kernel
theorem dX1_noteUse_23 : decode cX1_noteUse 23 = .ok (.return_, 1) := by decide +kernel
theorem dX1_usersAt_0 : decode cX1_usersAt 0 = .ok (.iload_n 1, 1) := by decide +kernel
theorem dX1_usersAt_1 : decode cX1_usersAt 1 = .ok (.ifCond .lt 21, 3) := by decide +kernel
theorem dX1_usersAt_4 : decode cX1_usersAt 4 = .ok (.iload_n 1, 1) := by decide +kernel
theorem dX1_usersAt_5 : decode cX1_usersAt 5 = .ok (.aload_n 0, 1) := by decide +kernel
theorem dX1_usersAt_6 : decode cX1_usersAt 6 = .ok (.getfield 18, 3) := by decide +kernel
theorem dX1_usersAt_9 : decode cX1_usersAt 9 = .ok (.arraylength, 1) := by decide +kernel
theorem dX1_usersAt_10 : decode cX1_usersAt 10 = .ok (.if_icmp .ge 12, 3) := by decide +kernel
theorem dX1_usersAt_13 : decode cX1_usersAt 13 = .ok (.aload_n 0, 1) := by decide +kernel
theorem dX1_usersAt_14 : decode cX1_usersAt 14 = .ok (.getfield 18, 3) := by decide +kernel
theorem dX1_usersAt_17 : decode cX1_usersAt 17 = .ok (.iload_n 1, 1) := by decide +kernel
theorem dX1_usersAt_18 : decode cX1_usersAt 18 = .ok (.iaload, 1) := by decide +kernel
theorem dX1_usersAt_19 : decode cX1_usersAt 19 = .ok (.goto 4, 3) := by decide +kernel
theorem dX1_usersAt_22 : decode cX1_usersAt 22 = .ok (.iconst 0, 1) := by decide +kernel
theorem dX1_usersAt_23 : decode cX1_usersAt 23 = .ok (.ireturn, 1) := by decide +kernel
theorem dX1_isClash_0 : decode cX1_isClash 0 = .ok (.aload_n 0, 1) := by decide +kernel
theorem dX1_isClash_1 : decode cX1_isClash 1 = .ok (.iload_n 1, 1) := by decide +kernel
theorem dX1_isClash_2 : decode cX1_isClash 2 = .ok (.invokevirtual 55, 3) := by decide +kernel
theorem dX1_isClash_5 : decode cX1_isClash 5 = .ok (.invokestatic 58, 3) := by decide +kernel
theorem dX1_isClash_8 : decode cX1_isClash 8 = .ok (.iconst 2, 1) := by decide +kernel
theorem dX1_isClash_9 : decode cX1_isClash 9 = .ok (.if_icmp .lt 7, 3) := by decide +kernel
theorem dX1_isClash_12 : decode cX1_isClash 12 = .ok (.iconst 1, 1) := by decide +kernel
theorem dX1_isClash_13 : decode cX1_isClash 13 = .ok (.goto 4, 3) := by decide +kernel
theorem dX1_isClash_16 : decode cX1_isClash 16 = .ok (.iconst 0, 1) := by decide +kernel
theorem dX1_isClash_17 : decode cX1_isClash 17 = .ok (.ireturn, 1) := by decide +kernel
theorem dX1_clashes_0 : decode cX1_clashes 0 = .ok (.iconst 0, 1) := by decide +kernel
theorem dX1_clashes_1 : decode cX1_clashes 1 = .ok (.istore_n 1, 1) := by decide +kernel
theorem dX1_clashes_2 : decode cX1_clashes 2 = .ok (.iconst 0, 1) := by decide +kernel
theorem dX1_clashes_3 : decode cX1_clashes 3 = .ok (.istore_n 2, 1) := by decide +kernel
theorem dX1_clashes_4 : decode cX1_clashes 4 = .ok (.iload_n 2, 1) := by decide +kernel
theorem dX1_clashes_5 : decode cX1_clashes 5 = .ok (.aload_n 0, 1) := by decide +kernel
theorem dX1_clashes_6 : decode cX1_clashes 6 = .ok (.getfield 18, 3) := by decide +kernel
theorem dX1_clashes_9 : decode cX1_clashes 9 = .ok (.arraylength, 1) := by decide +kernel
theorem dX1_clashes_10 : decode cX1_clashes 10 = .ok (.if_icmp .ge 20, 3) := by decide +kernel
theorem dX1_clashes_13 : decode cX1_clashes 13 = .ok (.aload_n 0, 1) := by decide +kernel
theorem dX1_clashes_14 : decode cX1_clashes 14 = .ok (.iload_n 2, 1) := by decide +kernel
theorem dX1_clashes_15 : decode cX1_clashes 15 = .ok (.invokevirtual 63, 3) := by decide +kernel
theorem dX1_clashes_18 : decode cX1_clashes 18 = .ok (.ifCond .eq 6, 3) := by decide +kernel
theorem dX1_clashes_21 : decode cX1_clashes 21 = .ok (.iinc 1 1, 3) := by decide +kernel
theorem dX1_clashes_24 : decode cX1_clashes 24 = .ok (.iinc 2 1, 3) := by decide +kernel
theorem dX1_clashes_27 : decode cX1_clashes 27 = .ok (.goto (-23), 3) := by decide +kernel
theorem dX1_clashes_30 : decode cX1_clashes 30 = .ok (.iload_n 1, 1) := by decide +kernel
theorem dX1_clashes_31 : decode cX1_clashes 31 = .ok (.ireturn, 1) := by decide +kernel
theorem dX1_crossings_0 : decode cX1_crossings 0 = .ok (.iconst 0, 1) := by decide +kernel
theorem dX1_crossings_1 : decode cX1_crossings 1 = .ok (.istore_n 1, 1) := by decide +kernel
theorem dX1_crossings_2 : decode cX1_crossings 2 = .ok (.aload_n 0, 1) := by decide +kernel
theorem dX1_crossings_3 : decode cX1_crossings 3 = .ok (.getfield 12, 3) := by decide +kernel
theorem dX1_crossings_6 : decode cX1_crossings 6 = .ok (.astore_n 2, 1) := by decide +kernel
theorem dX1_crossings_7 : decode cX1_crossings 7 = .ok (.aload_n 2, 1) := by decide +kernel
theorem dX1_crossings_8 : decode cX1_crossings 8 = .ok (.arraylength, 1) := by decide +kernel
theorem dX1_crossings_9 : decode cX1_crossings 9 = .ok (.istore_n 3, 1) := by decide +kernel
theorem dX1_crossings_10 : decode cX1_crossings 10 = .ok (.iconst 0, 1) := by decide +kernel
theorem dX1_crossings_11 : decode cX1_crossings 11 = .ok (.istore 4, 2) := by decide +kernel
theorem dX1_crossings_13 : decode cX1_crossings 13 = .ok (.iload 4, 2) := by decide +kernel
theorem dX1_crossings_15 : decode cX1_crossings 15 = .ok (.iload_n 3, 1) := by decide +kernel
theorem dX1_crossings_16 : decode cX1_crossings 16 = .ok (.if_icmp .ge 23, 3) := by decide +kernel
theorem dX1_crossings_19 : decode cX1_crossings 19 = .ok (.aload_n 2, 1) := by decide +kernel
theorem dX1_crossings_20 : decode cX1_crossings 20 = .ok (.iload 4, 2) := by decide +kernel
theorem dX1_crossings_22 : decode cX1_crossings 22 = .ok (.aaload, 1) := by decide +kernel
theorem dX1_crossings_23 : decode cX1_crossings 23 = .ok (.astore 5, 2) := by decide +kernel
theorem dX1_crossings_25 : decode cX1_crossings 25 = .ok (.iload_n 1, 1) := by decide +kernel
theorem dX1_crossings_26 : decode cX1_crossings 26 = .ok (.aload 5, 2) := by decide +kernel
theorem dX1_crossings_28 : decode cX1_crossings 28 = .ok (.getfield 36, 3) := by decide +kernel
theorem dX1_crossings_31 : decode cX1_crossings 31 = .ok (.iadd, 1) := by decide +kernel
theorem dX1_crossings_32 : decode cX1_crossings 32 = .ok (.istore_n 1, 1) := by decide +kernel
theorem dX1_crossings_33 : decode cX1_crossings 33 = .ok (.iinc 4 1, 3) := by decide +kernel
theorem dX1_crossings_36 : decode cX1_crossings 36 = .ok (.goto (-23), 3) := by decide +kernel
theorem dX1_crossings_39 : decode cX1_crossings 39 = .ok (.iload_n 1, 1) := by decide +kernel
theorem dX1_crossings_40 : decode cX1_crossings 40 = .ok (.ireturn, 1) := by decide +kernel
theorem dX2_init_0 : decode cX2_init 0 = .ok (.aload_n 0, 1) := by decide +kernel
theorem dX2_init_1 : decode cX2_init 1 = .ok (.invokespecial 3, 3) := by decide +kernel
theorem dX2_init_4 : decode cX2_init 4 = .ok (.aload_n 0, 1) := by decide +kernel
theorem dX2_init_5 : decode cX2_init 5 = .ok (.iconst 2, 1) := by decide +kernel
theorem dX2_init_6 : decode cX2_init 6 = .ok (.putfield 9, 3) := by decide +kernel
theorem dX2_init_9 : decode cX2_init 9 = .ok (.aload_n 0, 1) := by decide +kernel
theorem dX2_init_10 : decode cX2_init 10 = .ok (.bipush 6, 2) := by decide +kernel
theorem dX2_init_12 : decode cX2_init 12 = .ok (.putfield 15, 3) := by decide +kernel
theorem dX2_init_15 : decode cX2_init 15 = .ok (.aload_n 0, 1) := by decide +kernel
theorem dX2_init_16 : decode cX2_init 16 = .ok (.iconst 0, 1) := by decide +kernel
theorem dX2_init_17 : decode cX2_init 17 = .ok (.putfield 18, 3) := by decide +kernel
theorem dX2_init_20 : decode cX2_init 20 = .ok (.aload_n 0, 1) := by decide +kernel
theorem dX2_init_21 : decode cX2_init 21 = .ok (.iconst 0, 1) := by decide +kernel
theorem dX2_init_22 : decode cX2_init 22 = .ok (.putfield 21, 3) := by decide +kernel
theorem dX2_init_25 : decode cX2_init 25 = .ok (.aload_n 0, 1) := by decide +kernel
theorem dX2_init_26 : decode cX2_init 26 = .ok (.iconst 0, 1) := by decide +kernel
theorem dX2_init_27 : decode cX2_init 27 = .ok (.putfield 24, 3) := by decide +kernel
theorem dX2_init_30 : decode cX2_init 30 = .ok (.aload_n 0, 1) := by decide +kernel
theorem dX2_init_31 : decode cX2_init 31 = .ok (.iconst 0, 1) := by decide +kernel
theorem dX2_init_32 : decode cX2_init 32 = .ok (.putfield 27, 3) := by decide +kernel
theorem dX2_init_35 : decode cX2_init 35 = .ok (.aload_n 0, 1) := by decide +kernel
theorem dX2_init_36 : decode cX2_init 36 = .ok (.iconst 0, 1) := by decide +kernel
theorem dX2_init_37 : decode cX2_init 37 = .ok (.putfield 30, 3) := by decide +kernel
theorem dX2_init_40 : decode cX2_init 40 = .ok (.aload_n 0, 1) := by decide +kernel
theorem dX2_init_41 : decode cX2_init 41 = .ok (.iconst 0, 1) := by decide +kernel
theorem dX2_init_42 : decode cX2_init 42 = .ok (.putfield 33, 3) := by decide +kernel
theorem dX2_init_45 : decode cX2_init 45 = .ok (.aload_n 0, 1) := by decide +kernel
theorem dX2_init_46 : decode cX2_init 46 = .ok (.iconst 4, 1) := by decide +kernel
theorem dX2_init_47 : decode cX2_init 47 = .ok (.iload_n 1, 1) := by decide +kernel
theorem dX2_init_48 : decode cX2_init 48 = .ok (.imul, 1) := by decide +kernel
theorem dX2_init_49 : decode cX2_init 49 = .ok (.putfield 36, 3) := by decide +kernel
theorem dX2_init_52 : decode cX2_init 52 = .ok (.aload_n 0, 1) := by decide +kernel
theorem dX2_init_53 : decode cX2_init 53 = .ok (.iload_n 1, 1) := by decide +kernel
theorem dX2_init_54 : decode cX2_init 54 = .ok (.iconst 2, 1) := by decide +kernel
theorem dX2_init_55 : decode cX2_init 55 = .ok (.irem, 1) := by decide +kernel
theorem dX2_init_56 : decode cX2_init 56 = .ok (.putfield 39, 3) := by decide +kernel
theorem dX2_init_59 : decode cX2_init 59 = .ok (.return_, 1) := by decide +kernel
theorem dX2_tell_0 : decode cX2_tell 0 = .ok (.iload_n 1, 1) := by decide +kernel
theorem dX2_tell_1 : decode cX2_tell 1 = .ok (.tableswitch 109 0 10 #[59, 64, 69, 74, 109, 79, 84, 89, 94, 99, 104], 59) := by decide +kernel
theorem dX2_tell_60 : decode cX2_tell 60 = .ok (.aload_n 0, 1) := by decide +kernel
theorem dX2_tell_61 : decode cX2_tell 61 = .ok (.getfield 36, 3) := by decide +kernel
theorem dX2_tell_64 : decode cX2_tell 64 = .ok (.ireturn, 1) := by decide +kernel
theorem dX2_tell_65 : decode cX2_tell 65 = .ok (.aload_n 0, 1) := by decide +kernel
theorem dX2_tell_66 : decode cX2_tell 66 = .ok (.getfield 9, 3) := by decide +kernel
theorem dX2_tell_69 : decode cX2_tell 69 = .ok (.ireturn, 1) := by decide +kernel
theorem dX2_tell_70 : decode cX2_tell 70 = .ok (.aload_n 0, 1) := by decide +kernel
theorem dX2_tell_71 : decode cX2_tell 71 = .ok (.getfield 15, 3) := by decide +kernel
theorem dX2_tell_74 : decode cX2_tell 74 = .ok (.ireturn, 1) := by decide +kernel
theorem dX2_tell_75 : decode cX2_tell 75 = .ok (.aload_n 0, 1) := by decide +kernel
theorem dX2_tell_76 : decode cX2_tell 76 = .ok (.getfield 39, 3) := by decide +kernel
theorem dX2_tell_79 : decode cX2_tell 79 = .ok (.ireturn, 1) := by decide +kernel
theorem dX2_tell_80 : decode cX2_tell 80 = .ok (.aload_n 0, 1) := by decide +kernel
theorem dX2_tell_81 : decode cX2_tell 81 = .ok (.getfield 18, 3) := by decide +kernel
theorem dX2_tell_84 : decode cX2_tell 84 = .ok (.ireturn, 1) := by decide +kernel
theorem dX2_tell_85 : decode cX2_tell 85 = .ok (.aload_n 0, 1) := by decide +kernel
theorem dX2_tell_86 : decode cX2_tell 86 = .ok (.getfield 21, 3) := by decide +kernel
theorem dX2_tell_89 : decode cX2_tell 89 = .ok (.ireturn, 1) := by decide +kernel
theorem dX2_tell_90 : decode cX2_tell 90 = .ok (.aload_n 0, 1) := by decide +kernel
theorem dX2_tell_91 : decode cX2_tell 91 = .ok (.getfield 24, 3) := by decide +kernel
theorem dX2_tell_94 : decode cX2_tell 94 = .ok (.ireturn, 1) := by decide +kernel
theorem dX2_tell_95 : decode cX2_tell 95 = .ok (.aload_n 0, 1) := by decide +kernel
theorem dX2_tell_96 : decode cX2_tell 96 = .ok (.getfield 27, 3) := by decide +kernel
theorem dX2_tell_99 : decode cX2_tell 99 = .ok (.ireturn, 1) := by decide +kernel
theorem dX2_tell_100 : decode cX2_tell 100 = .ok (.aload_n 0, 1) := by decide +kernel
theorem dX2_tell_101 : decode cX2_tell 101 = .ok (.getfield 30, 3) := by decide +kernel
theorem dX2_tell_104 : decode cX2_tell 104 = .ok (.ireturn, 1) := by decide +kernel
theorem dX2_tell_105 : decode cX2_tell 105 = .ok (.aload_n 0, 1) := by decide +kernel
theorem dX2_tell_106 : decode cX2_tell 106 = .ok (.getfield 33, 3) := by decide +kernel
theorem dX2_tell_109 : decode cX2_tell 109 = .ok (.ireturn, 1) := by decide +kernel
theorem dX2_tell_110 : decode cX2_tell 110 = .ok (.iconst 0, 1) := by decide +kernel
theorem dX2_tell_111 : decode cX2_tell 111 = .ok (.ireturn, 1) := by decide +kernel
theorem dX2_change_0 : decode cX2_change 0 = .ok (.iload_n 1, 1) := by decide +kernel
theorem dX2_change_1 : decode cX2_change 1 = .ok (.tableswitch 63 0 3 #[31, 39, 47, 55], 31) := by decide +kernel
theorem dX2_change_32 : decode cX2_change 32 = .ok (.aload_n 0, 1) := by decide +kernel
theorem dX2_change_33 : decode cX2_change 33 = .ok (.iload_n 2, 1) := by decide +kernel
theorem dX2_change_34 : decode cX2_change 34 = .ok (.putfield 36, 3) := by decide +kernel
theorem dX2_change_37 : decode cX2_change 37 = .ok (.goto 27, 3) := by decide +kernel
theorem dX2_change_40 : decode cX2_change 40 = .ok (.aload_n 0, 1) := by decide +kernel
theorem dX2_change_41 : decode cX2_change 41 = .ok (.iload_n 2, 1) := by decide +kernel
theorem dX2_change_42 : decode cX2_change 42 = .ok (.putfield 9, 3) := by decide +kernel
theorem dX2_change_45 : decode cX2_change 45 = .ok (.goto 19, 3) := by decide +kernel
theorem dX2_change_48 : decode cX2_change 48 = .ok (.aload_n 0, 1) := by decide +kernel
theorem dX2_change_49 : decode cX2_change 49 = .ok (.iload_n 2, 1) := by decide +kernel
theorem dX2_change_50 : decode cX2_change 50 = .ok (.putfield 15, 3) := by decide +kernel
theorem dX2_change_53 : decode cX2_change 53 = .ok (.goto 11, 3) := by decide +kernel
theorem dX2_change_56 : decode cX2_change 56 = .ok (.aload_n 0, 1) := by decide +kernel
theorem dX2_change_57 : decode cX2_change 57 = .ok (.iload_n 2, 1) := by decide +kernel
theorem dX2_change_58 : decode cX2_change 58 = .ok (.putfield 39, 3) := by decide +kernel
theorem dX2_change_61 : decode cX2_change 61 = .ok (.goto 3, 3) := by decide +kernel
theorem dX2_change_64 : decode cX2_change 64 = .ok (.return_, 1) := by decide +kernel
theorem dX2_endDay_0 : decode cX2_endDay 0 = .ok (.aload_n 0, 1) := by decide +kernel
theorem dX2_endDay_1 : decode cX2_endDay 1 = .ok (.dup, 1) := by decide +kernel
theorem dX2_endDay_2 : decode cX2_endDay 2 = .ok (.getfield 18, 3) := by decide +kernel
theorem dX2_endDay_5 : decode cX2_endDay 5 = .ok (.aload_n 1, 1) := by decide +kernel
theorem dX2_endDay_6 : decode cX2_endDay 6 = .ok (.getfield 42, 3) := by decide +kernel
theorem dX2_endDay_9 : decode cX2_endDay 9 = .ok (.iadd, 1) := by decide +kernel
theorem dX2_endDay_10 : decode cX2_endDay 10 = .ok (.putfield 18, 3) := by decide +kernel
theorem dX2_endDay_13 : decode cX2_endDay 13 = .ok (.aload_n 0, 1) := by decide +kernel
theorem dX2_endDay_14 : decode cX2_endDay 14 = .ok (.dup, 1) := by decide +kernel
theorem dX2_endDay_15 : decode cX2_endDay 15 = .ok (.getfield 21, 3) := by decide +kernel
theorem dX2_endDay_18 : decode cX2_endDay 18 = .ok (.aload_n 1, 1) := by decide +kernel
theorem dX2_endDay_19 : decode cX2_endDay 19 = .ok (.getfield 45, 3) := by decide +kernel
theorem dX2_endDay_22 : decode cX2_endDay 22 = .ok (.iadd, 1) := by decide +kernel
theorem dX2_endDay_23 : decode cX2_endDay 23 = .ok (.putfield 21, 3) := by decide +kernel
theorem dX2_endDay_26 : decode cX2_endDay 26 = .ok (.aload_n 0, 1) := by decide +kernel
theorem dX2_endDay_27 : decode cX2_endDay 27 = .ok (.dup, 1) := by decide +kernel
theorem dX2_endDay_28 : decode cX2_endDay 28 = .ok (.getfield 24, 3) := by decide +kernel
theorem dX2_endDay_31 : decode cX2_endDay 31 = .ok (.aload_n 1, 1) := by decide +kernel
theorem dX2_endDay_32 : decode cX2_endDay 32 = .ok (.getfield 46, 3) := by decide +kernel
theorem dX2_endDay_35 : decode cX2_endDay 35 = .ok (.iadd, 1) := by decide +kernel
theorem dX2_endDay_36 : decode cX2_endDay 36 = .ok (.putfield 24, 3) := by decide +kernel
theorem dX2_endDay_39 : decode cX2_endDay 39 = .ok (.aload_n 0, 1) := by decide +kernel
theorem dX2_endDay_40 : decode cX2_endDay 40 = .ok (.dup, 1) := by decide +kernel
theorem dX2_endDay_41 : decode cX2_endDay 41 = .ok (.getfield 27, 3) := by decide +kernel
theorem dX2_endDay_44 : decode cX2_endDay 44 = .ok (.aload_n 1, 1) := by decide +kernel
theorem dX2_endDay_45 : decode cX2_endDay 45 = .ok (.getfield 47, 3) := by decide +kernel
theorem dX2_endDay_48 : decode cX2_endDay 48 = .ok (.iadd, 1) := by decide +kernel
theorem dX2_endDay_49 : decode cX2_endDay 49 = .ok (.putfield 27, 3) := by decide +kernel
theorem dX2_endDay_52 : decode cX2_endDay 52 = .ok (.aload_n 0, 1) := by decide +kernel
theorem dX2_endDay_53 : decode cX2_endDay 53 = .ok (.dup, 1) := by decide +kernel
theorem dX2_endDay_54 : decode cX2_endDay 54 = .ok (.getfield 30, 3) := by decide +kernel
theorem dX2_endDay_57 : decode cX2_endDay 57 = .ok (.aload_n 1, 1) := by decide +kernel
theorem dX2_endDay_58 : decode cX2_endDay 58 = .ok (.invokevirtual 48, 3) := by decide +kernel
theorem dX2_endDay_61 : decode cX2_endDay 61 = .ok (.iadd, 1) := by decide +kernel
theorem dX2_endDay_62 : decode cX2_endDay 62 = .ok (.putfield 30, 3) := by decide +kernel
theorem dX2_endDay_65 : decode cX2_endDay 65 = .ok (.return_, 1) := by decide +kernel
theorem dX2_learn_0 : decode cX2_learn 0 = .ok (.aload_n 0, 1) := by decide +kernel
theorem dX2_learn_1 : decode cX2_learn 1 = .ok (.iload_n 1, 1) := by decide +kernel
theorem dX2_learn_2 : decode cX2_learn 2 = .ok (.putfield 36, 3) := by decide +kernel
theorem dX2_learn_5 : decode cX2_learn 5 = .ok (.aload_n 0, 1) := by decide +kernel
theorem dX2_learn_6 : decode cX2_learn 6 = .ok (.dup, 1) := by decide +kernel
theorem dX2_learn_7 : decode cX2_learn 7 = .ok (.getfield 33, 3) := by decide +kernel
theorem dX2_learn_10 : decode cX2_learn 10 = .ok (.iconst 1, 1) := by decide +kernel
theorem dX2_learn_11 : decode cX2_learn 11 = .ok (.iadd, 1) := by decide +kernel
theorem dX2_learn_12 : decode cX2_learn 12 = .ok (.putfield 33, 3) := by decide +kernel
theorem dX2_learn_15 : decode cX2_learn 15 = .ok (.return_, 1) := by decide +kernel
theorem dX2_copyFrom_0 : decode cX2_copyFrom 0 = .ok (.aload_n 0, 1) := by decide +kernel
theorem dX2_copyFrom_1 : decode cX2_copyFrom 1 = .ok (.aload_n 1, 1) := by decide +kernel
theorem dX2_copyFrom_2 : decode cX2_copyFrom 2 = .ok (.getfield 36, 3) := by decide +kernel
theorem dX2_copyFrom_5 : decode cX2_copyFrom 5 = .ok (.putfield 36, 3) := by decide +kernel
theorem dX2_copyFrom_8 : decode cX2_copyFrom 8 = .ok (.aload_n 0, 1) := by decide +kernel
theorem dX2_copyFrom_9 : decode cX2_copyFrom 9 = .ok (.aload_n 1, 1) := by decide +kernel
theorem dX2_copyFrom_10 : decode cX2_copyFrom 10 = .ok (.getfield 9, 3) := by decide +kernel
theorem dX2_copyFrom_13 : decode cX2_copyFrom 13 = .ok (.putfield 9, 3) := by decide +kernel
theorem dX2_copyFrom_16 : decode cX2_copyFrom 16 = .ok (.aload_n 0, 1) := by decide +kernel
theorem dX2_copyFrom_17 : decode cX2_copyFrom 17 = .ok (.aload_n 1, 1) := by decide +kernel
theorem dX2_copyFrom_18 : decode cX2_copyFrom 18 = .ok (.getfield 15, 3) := by decide +kernel
theorem dX2_copyFrom_21 : decode cX2_copyFrom 21 = .ok (.putfield 15, 3) := by decide +kernel
theorem dX2_copyFrom_24 : decode cX2_copyFrom 24 = .ok (.aload_n 0, 1) := by decide +kernel
theorem dX2_copyFrom_25 : decode cX2_copyFrom 25 = .ok (.aload_n 1, 1) := by decide +kernel
theorem dX2_copyFrom_26 : decode cX2_copyFrom 26 = .ok (.getfield 39, 3) := by decide +kernel
theorem dX2_copyFrom_29 : decode cX2_copyFrom 29 = .ok (.putfield 39, 3) := by decide +kernel
theorem dX2_copyFrom_32 : decode cX2_copyFrom 32 = .ok (.aload_n 0, 1) := by decide +kernel
theorem dX2_copyFrom_33 : decode cX2_copyFrom 33 = .ok (.aload_n 1, 1) := by decide +kernel
theorem dX2_copyFrom_34 : decode cX2_copyFrom 34 = .ok (.getfield 18, 3) := by decide +kernel
theorem dX2_copyFrom_37 : decode cX2_copyFrom 37 = .ok (.putfield 18, 3) := by decide +kernel
theorem dX2_copyFrom_40 : decode cX2_copyFrom 40 = .ok (.aload_n 0, 1) := by decide +kernel
theorem dX2_copyFrom_41 : decode cX2_copyFrom 41 = .ok (.aload_n 1, 1) := by decide +kernel
theorem dX2_copyFrom_42 : decode cX2_copyFrom 42 = .ok (.getfield 21, 3) := by decide +kernel
theorem dX2_copyFrom_45 : decode cX2_copyFrom 45 = .ok (.putfield 21, 3) := by decide +kernel
theorem dX2_copyFrom_48 : decode cX2_copyFrom 48 = .ok (.aload_n 0, 1) := by decide +kernel
theorem dX2_copyFrom_49 : decode cX2_copyFrom 49 = .ok (.aload_n 1, 1) := by decide +kernel
theorem dX2_copyFrom_50 : decode cX2_copyFrom 50 = .ok (.getfield 24, 3) := by decide +kernel
theorem dX2_copyFrom_53 : decode cX2_copyFrom 53 = .ok (.putfield 24, 3) := by decide +kernel
theorem dX2_copyFrom_56 : decode cX2_copyFrom 56 = .ok (.aload_n 0, 1) := by decide +kernel
theorem dX2_copyFrom_57 : decode cX2_copyFrom 57 = .ok (.aload_n 1, 1) := by decide +kernel
theorem dX2_copyFrom_58 : decode cX2_copyFrom 58 = .ok (.getfield 27, 3) := by decide +kernel
theorem dX2_copyFrom_61 : decode cX2_copyFrom 61 = .ok (.putfield 27, 3) := by decide +kernel
theorem dX2_copyFrom_64 : decode cX2_copyFrom 64 = .ok (.aload_n 0, 1) := by decide +kernel
theorem dX2_copyFrom_65 : decode cX2_copyFrom 65 = .ok (.aload_n 1, 1) := by decide +kernel
theorem dX2_copyFrom_66 : decode cX2_copyFrom 66 = .ok (.getfield 30, 3) := by decide +kernel
theorem dX2_copyFrom_69 : decode cX2_copyFrom 69 = .ok (.putfield 30, 3) := by decide +kernel
theorem dX2_copyFrom_72 : decode cX2_copyFrom 72 = .ok (.aload_n 0, 1) := by decide +kernel
theorem dX2_copyFrom_73 : decode cX2_copyFrom 73 = .ok (.aload_n 1, 1) := by decide +kernel
theorem dX2_copyFrom_74 : decode cX2_copyFrom 74 = .ok (.getfield 33, 3) := by decide +kernel
theorem dX2_copyFrom_77 : decode cX2_copyFrom 77 = .ok (.putfield 33, 3) := by decide +kernel
theorem dX2_copyFrom_80 : decode cX2_copyFrom 80 = .ok (.return_, 1) := by decide +kernel
theorem dX3_init_0 : decode cX3_init 0 = .ok (.aload_n 0, 1) := by decide +kernel
theorem dX3_init_1 : decode cX3_init 1 = .ok (.invokespecial 3, 3) := by decide +kernel
theorem dX3_init_4 : decode cX3_init 4 = .ok (.aload_n 0, 1) := by decide +kernel
theorem dX3_init_5 : decode cX3_init 5 = .ok (.new 9, 3) := by decide +kernel
theorem dX3_init_8 : decode cX3_init 8 = .ok (.dup, 1) := by decide +kernel
theorem dX3_init_9 : decode cX3_init 9 = .ok (.invokespecial 11, 3) := by decide +kernel
theorem dX3_init_12 : decode cX3_init 12 = .ok (.putfield 12, 3) := by decide +kernel
theorem dX3_init_15 : decode cX3_init 15 = .ok (.aload_n 0, 1) := by decide +kernel
theorem dX3_init_16 : decode cX3_init 16 = .ok (.iconst 0, 1) := by decide +kernel
theorem dX3_init_17 : decode cX3_init 17 = .ok (.putfield 18, 3) := by decide +kernel
theorem dX3_init_20 : decode cX3_init 20 = .ok (.aload_n 0, 1) := by decide +kernel
theorem dX3_init_21 : decode cX3_init 21 = .ok (.iconst 0, 1) := by decide +kernel
theorem dX3_init_22 : decode cX3_init 22 = .ok (.putfield 22, 3) := by decide +kernel
theorem dX3_init_25 : decode cX3_init 25 = .ok (.aload_n 0, 1) := by decide +kernel
theorem dX3_init_26 : decode cX3_init 26 = .ok (.iconst 0, 1) := by decide +kernel
theorem dX3_init_27 : decode cX3_init 27 = .ok (.putfield 25, 3) := by decide +kernel
theorem dX3_init_30 : decode cX3_init 30 = .ok (.aload_n 0, 1) := by decide +kernel
theorem dX3_init_31 : decode cX3_init 31 = .ok (.iconst 0, 1) := by decide +kernel
theorem dX3_init_32 : decode cX3_init 32 = .ok (.putfield 29, 3) := by decide +kernel
theorem dX3_init_35 : decode cX3_init 35 = .ok (.aload_n 0, 1) := by decide +kernel
theorem dX3_init_36 : decode cX3_init 36 = .ok (.iconst 0, 1) := by decide +kernel
theorem dX3_init_37 : decode cX3_init 37 = .ok (.putfield 32, 3) := by decide +kernel
theorem dX3_init_40 : decode cX3_init 40 = .ok (.aload_n 0, 1) := by decide +kernel
theorem dX3_init_41 : decode cX3_init 41 = .ok (.iconst 0, 1) := by decide +kernel
theorem dX3_init_42 : decode cX3_init 42 = .ok (.putfield 35, 3) := by decide +kernel
theorem dX3_init_45 : decode cX3_init 45 = .ok (.aload_n 0, 1) := by decide +kernel
theorem dX3_init_46 : decode cX3_init 46 = .ok (.iconst 0, 1) := by decide +kernel
theorem dX3_init_47 : decode cX3_init 47 = .ok (.putfield 38, 3) := by decide +kernel
theorem dX3_init_50 : decode cX3_init 50 = .ok (.aload_n 0, 1) := by decide +kernel
theorem dX3_init_51 : decode cX3_init 51 = .ok (.iconst 0, 1) := by decide +kernel
theorem dX3_init_52 : decode cX3_init 52 = .ok (.putfield 41, 3) := by decide +kernel
theorem dX3_init_55 : decode cX3_init 55 = .ok (.aload_n 0, 1) := by decide +kernel
theorem dX3_init_56 : decode cX3_init 56 = .ok (.iconst 0, 1) := by decide +kernel
theorem dX3_init_57 : decode cX3_init 57 = .ok (.putfield 44, 3) := by decide +kernel
theorem dX3_init_60 : decode cX3_init 60 = .ok (.aload_n 0, 1) := by decide +kernel
theorem dX3_init_61 : decode cX3_init 61 = .ok (.iconst 0, 1) := by decide +kernel
theorem dX3_init_62 : decode cX3_init 62 = .ok (.putfield 47, 3) := by decide +kernel
theorem dX3_init_65 : decode cX3_init 65 = .ok (.return_, 1) := by decide +kernel
theorem dX3_beginDay_0 : decode cX3_beginDay 0 = .ok (.aload_n 0, 1) := by decide +kernel
theorem dX3_beginDay_1 : decode cX3_beginDay 1 = .ok (.getfield 12, 3) := by decide +kernel
theorem dX3_beginDay_4 : decode cX3_beginDay 4 = .ok (.aload_n 1, 1) := by decide +kernel
theorem dX3_beginDay_5 : decode cX3_beginDay 5 = .ok (.invokevirtual 50, 3) := by decide +kernel
theorem dX3_beginDay_8 : decode cX3_beginDay 8 = .ok (.aload_n 0, 1) := by decide +kernel
theorem dX3_beginDay_9 : decode cX3_beginDay 9 = .ok (.aload_n 1, 1) := by decide +kernel
theorem dX3_beginDay_10 : decode cX3_beginDay 10 = .ok (.getfield 54, 3) := by decide +kernel
theorem dX3_beginDay_13 : decode cX3_beginDay 13 = .ok (.putfield 18, 3) := by decide +kernel
theorem dX3_beginDay_16 : decode cX3_beginDay 16 = .ok (.aload_n 0, 1) := by decide +kernel
theorem dX3_beginDay_17 : decode cX3_beginDay 17 = .ok (.aload_n 1, 1) := by decide +kernel
theorem dX3_beginDay_18 : decode cX3_beginDay 18 = .ok (.getfield 57, 3) := by decide +kernel
theorem dX3_beginDay_21 : decode cX3_beginDay 21 = .ok (.putfield 22, 3) := by decide +kernel
theorem dX3_beginDay_24 : decode cX3_beginDay 24 = .ok (.aload_n 0, 1) := by decide +kernel
theorem dX3_beginDay_25 : decode cX3_beginDay 25 = .ok (.iconst 0, 1) := by decide +kernel
theorem dX3_beginDay_26 : decode cX3_beginDay 26 = .ok (.putfield 25, 3) := by decide +kernel
theorem dX3_beginDay_29 : decode cX3_beginDay 29 = .ok (.aload_n 0, 1) := by decide +kernel
theorem dX3_beginDay_30 : decode cX3_beginDay 30 = .ok (.iconst 0, 1) := by decide +kernel
theorem dX3_beginDay_31 : decode cX3_beginDay 31 = .ok (.putfield 38, 3) := by decide +kernel
theorem dX3_beginDay_34 : decode cX3_beginDay 34 = .ok (.aload_n 0, 1) := by decide +kernel
theorem dX3_beginDay_35 : decode cX3_beginDay 35 = .ok (.iconst 0, 1) := by decide +kernel
theorem dX3_beginDay_36 : decode cX3_beginDay 36 = .ok (.putfield 41, 3) := by decide +kernel
theorem dX3_beginDay_39 : decode cX3_beginDay 39 = .ok (.aload_n 0, 1) := by decide +kernel
theorem dX3_beginDay_40 : decode cX3_beginDay 40 = .ok (.iconst 0, 1) := by decide +kernel
theorem dX3_beginDay_41 : decode cX3_beginDay 41 = .ok (.putfield 44, 3) := by decide +kernel
theorem dX3_beginDay_44 : decode cX3_beginDay 44 = .ok (.aload_n 0, 1) := by decide +kernel
theorem dX3_beginDay_45 : decode cX3_beginDay 45 = .ok (.iconst 0, 1) := by decide +kernel
theorem dX3_beginDay_46 : decode cX3_beginDay 46 = .ok (.putfield 47, 3) := by decide +kernel
theorem dX3_beginDay_49 : decode cX3_beginDay 49 = .ok (.return_, 1) := by decide +kernel
theorem dX3_beginHour_0 : decode cX3_beginHour 0 = .ok (.aload_n 0, 1) := by decide +kernel
theorem dX3_beginHour_1 : decode cX3_beginHour 1 = .ok (.aload_n 0, 1) := by decide +kernel
theorem dX3_beginHour_2 : decode cX3_beginHour 2 = .ok (.getfield 25, 3) := by decide +kernel
theorem dX3_beginHour_5 : decode cX3_beginHour 5 = .ok (.ifCond .eq 17, 3) := by decide +kernel
theorem dX3_beginHour_8 : decode cX3_beginHour 8 = .ok (.iload_n 1, 1) := by decide +kernel
theorem dX3_beginHour_9 : decode cX3_beginHour 9 = .ok (.aload_n 0, 1) := by decide +kernel
theorem dX3_beginHour_10 : decode cX3_beginHour 10 = .ok (.getfield 29, 3) := by decide +kernel
theorem dX3_beginHour_13 : decode cX3_beginHour 13 = .ok (.iconst 2, 1) := by decide +kernel
theorem dX3_beginHour_14 : decode cX3_beginHour 14 = .ok (.iadd, 1) := by decide +kernel
theorem dX3_beginHour_15 : decode cX3_beginHour 15 = .ok (.if_icmp .ne 7, 3) := by decide +kernel
theorem dX3_beginHour_18 : decode cX3_beginHour 18 = .ok (.iconst 1, 1) := by decide +kernel
theorem dX3_beginHour_19 : decode cX3_beginHour 19 = .ok (.goto 4, 3) := by decide +kernel
theorem dX3_beginHour_22 : decode cX3_beginHour 22 = .ok (.iconst 0, 1) := by decide +kernel
theorem dX3_beginHour_23 : decode cX3_beginHour 23 = .ok (.putfield 32, 3) := by decide +kernel
theorem dX3_beginHour_26 : decode cX3_beginHour 26 = .ok (.aload_n 0, 1) := by decide +kernel
theorem dX3_beginHour_27 : decode cX3_beginHour 27 = .ok (.getfield 32, 3) := by decide +kernel
theorem dX3_beginHour_30 : decode cX3_beginHour 30 = .ok (.ifCond .eq 20, 3) := by decide +kernel
theorem dX3_beginHour_33 : decode cX3_beginHour 33 = .ok (.aload_n 0, 1) := by decide +kernel
theorem dX3_beginHour_34 : decode cX3_beginHour 34 = .ok (.iconst 0, 1) := by decide +kernel
theorem dX3_beginHour_35 : decode cX3_beginHour 35 = .ok (.putfield 25, 3) := by decide +kernel
theorem dX3_beginHour_38 : decode cX3_beginHour 38 = .ok (.aload_n 0, 1) := by decide +kernel
theorem dX3_beginHour_39 : decode cX3_beginHour 39 = .ok (.aload_n 0, 1) := by decide +kernel
theorem dX3_beginHour_40 : decode cX3_beginHour 40 = .ok (.getfield 22, 3) := by decide +kernel
theorem dX3_beginHour_43 : decode cX3_beginHour 43 = .ok (.iconst 1, 1) := by decide +kernel
theorem dX3_beginHour_44 : decode cX3_beginHour 44 = .ok (.iadd, 1) := by decide +kernel
theorem dX3_beginHour_45 : decode cX3_beginHour 45 = .ok (.iconst 2, 1) := by decide +kernel
theorem dX3_beginHour_46 : decode cX3_beginHour 46 = .ok (.irem, 1) := by decide +kernel
theorem dX3_beginHour_47 : decode cX3_beginHour 47 = .ok (.putfield 22, 3) := by decide +kernel
theorem dX3_beginHour_50 : decode cX3_beginHour 50 = .ok (.aload_n 0, 1) := by decide +kernel
theorem dX3_beginHour_51 : decode cX3_beginHour 51 = .ok (.aload_n 0, 1) := by decide +kernel
theorem dX3_beginHour_52 : decode cX3_beginHour 52 = .ok (.getfield 25, 3) := by decide +kernel
theorem dX3_beginHour_55 : decode cX3_beginHour 55 = .ok (.ifCond .ne 42, 3) := by decide +kernel
theorem dX3_beginHour_58 : decode cX3_beginHour 58 = .ok (.iload_n 1, 1) := by decide +kernel
theorem dX3_beginHour_59 : decode cX3_beginHour 59 = .ok (.bipush 21, 2) := by decide +kernel
theorem dX3_beginHour_61 : decode cX3_beginHour 61 = .ok (.if_icmp .gt 36, 3) := by decide +kernel
theorem dX3_beginHour_64 : decode cX3_beginHour 64 = .ok (.aload_n 0, 1) := by decide +kernel
theorem dX3_beginHour_65 : decode cX3_beginHour 65 = .ok (.getfield 12, 3) := by decide +kernel
theorem dX3_beginHour_68 : decode cX3_beginHour 68 = .ok (.aload_n 0, 1) := by decide +kernel
theorem dX3_beginHour_69 : decode cX3_beginHour 69 = .ok (.getfield 38, 3) := by decide +kernel
theorem dX3_beginHour_72 : decode cX3_beginHour 72 = .ok (.invokevirtual 60, 3) := by decide +kernel
theorem dX3_beginHour_75 : decode cX3_beginHour 75 = .ok (.ifCond .eq 22, 3) := by decide +kernel
theorem dX3_beginHour_78 : decode cX3_beginHour 78 = .ok (.aload_n 0, 1) := by decide +kernel
theorem dX3_beginHour_79 : decode cX3_beginHour 79 = .ok (.getfield 12, 3) := by decide +kernel
theorem dX3_beginHour_82 : decode cX3_beginHour 82 = .ok (.aload_n 0, 1) := by decide +kernel
theorem dX3_beginHour_83 : decode cX3_beginHour 83 = .ok (.getfield 38, 3) := by decide +kernel
theorem dX3_beginHour_86 : decode cX3_beginHour 86 = .ok (.invokevirtual 64, 3) := by decide +kernel
theorem dX3_beginHour_89 : decode cX3_beginHour 89 = .ok (.iload_n 1, 1) := by decide +kernel
theorem dX3_beginHour_90 : decode cX3_beginHour 90 = .ok (.if_icmp .gt 7, 3) := by decide +kernel
theorem dX3_beginHour_93 : decode cX3_beginHour 93 = .ok (.iconst 1, 1) := by decide +kernel
theorem dX3_beginHour_94 : decode cX3_beginHour 94 = .ok (.goto 4, 3) := by decide +kernel
theorem dX3_beginHour_97 : decode cX3_beginHour 97 = .ok (.iconst 0, 1) := by decide +kernel
theorem dX3_beginHour_98 : decode cX3_beginHour 98 = .ok (.putfield 35, 3) := by decide +kernel
theorem dX3_beginHour_101 : decode cX3_beginHour 101 = .ok (.aload_n 0, 1) := by decide +kernel
theorem dX3_beginHour_102 : decode cX3_beginHour 102 = .ok (.getfield 35, 3) := by decide +kernel
theorem dX3_beginHour_105 : decode cX3_beginHour 105 = .ok (.ifCond .eq 26, 3) := by decide +kernel
theorem dX3_beginHour_108 : decode cX3_beginHour 108 = .ok (.iload_n 2, 1) := by decide +kernel
theorem dX3_beginHour_109 : decode cX3_beginHour 109 = .ok (.aload_n 0, 1) := by decide +kernel
theorem dX3_beginHour_110 : decode cX3_beginHour 110 = .ok (.getfield 18, 3) := by decide +kernel
theorem dX3_beginHour_113 : decode cX3_beginHour 113 = .ok (.if_icmp .ge 18, 3) := by decide +kernel
theorem dX3_beginHour_116 : decode cX3_beginHour 116 = .ok (.aload_n 0, 1) := by decide +kernel
theorem dX3_beginHour_117 : decode cX3_beginHour 117 = .ok (.dup, 1) := by decide +kernel
theorem dX3_beginHour_118 : decode cX3_beginHour 118 = .ok (.getfield 41, 3) := by decide +kernel
theorem dX3_beginHour_121 : decode cX3_beginHour 121 = .ok (.iconst 1, 1) := by decide +kernel
theorem dX3_beginHour_122 : decode cX3_beginHour 122 = .ok (.iadd, 1) := by decide +kernel
theorem dX3_beginHour_123 : decode cX3_beginHour 123 = .ok (.putfield 41, 3) := by decide +kernel
theorem dX3_beginHour_126 : decode cX3_beginHour 126 = .ok (.aload_n 0, 1) := by decide +kernel
theorem dX3_beginHour_127 : decode cX3_beginHour 127 = .ok (.iconst 0, 1) := by decide +kernel
theorem dX3_beginHour_128 : decode cX3_beginHour 128 = .ok (.putfield 35, 3) := by decide +kernel
theorem dX3_beginHour_131 : decode cX3_beginHour 131 = .ok (.return_, 1) := by decide +kernel
theorem dX3_wantsFrom_0 : decode cX3_wantsFrom 0 = .ok (.aload_n 0, 1) := by decide +kernel
theorem dX3_wantsFrom_1 : decode cX3_wantsFrom 1 = .ok (.getfield 35, 3) := by decide +kernel
theorem dX3_wantsFrom_4 : decode cX3_wantsFrom 4 = .ok (.ifCond .eq 15, 3) := by decide +kernel
theorem dX3_wantsFrom_7 : decode cX3_wantsFrom 7 = .ok (.aload_n 0, 1) := by decide +kernel
theorem dX3_wantsFrom_8 : decode cX3_wantsFrom 8 = .ok (.getfield 22, 3) := by decide +kernel
theorem dX3_wantsFrom_11 : decode cX3_wantsFrom 11 = .ok (.iload_n 1, 1) := by decide +kernel
theorem dX3_wantsFrom_12 : decode cX3_wantsFrom 12 = .ok (.if_icmp .ne 7, 3) := by decide +kernel
theorem dX3_wantsFrom_15 : decode cX3_wantsFrom 15 = .ok (.iconst 1, 1) := by decide +kernel
theorem dX3_wantsFrom_16 : decode cX3_wantsFrom 16 = .ok (.goto 4, 3) := by decide +kernel
theorem dX3_wantsFrom_19 : decode cX3_wantsFrom 19 = .ok (.iconst 0, 1) := by decide +kernel
theorem dX3_wantsFrom_20 : decode cX3_wantsFrom 20 = .ok (.ireturn, 1) := by decide +kernel
theorem dX3_arrivedAt_0 : decode cX3_arrivedAt 0 = .ok (.aload_n 0, 1) := by decide +kernel
theorem dX3_arrivedAt_1 : decode cX3_arrivedAt 1 = .ok (.getfield 32, 3) := by decide +kernel
theorem dX3_arrivedAt_4 : decode cX3_arrivedAt 4 = .ok (.ifCond .eq 15, 3) := by decide +kernel
theorem dX3_arrivedAt_7 : decode cX3_arrivedAt 7 = .ok (.aload_n 0, 1) := by decide +kernel
theorem dX3_arrivedAt_8 : decode cX3_arrivedAt 8 = .ok (.getfield 22, 3) := by decide +kernel
theorem dX3_arrivedAt_11 : decode cX3_arrivedAt 11 = .ok (.iload_n 1, 1) := by decide +kernel
theorem dX3_arrivedAt_12 : decode cX3_arrivedAt 12 = .ok (.if_icmp .ne 7, 3) := by decide +kernel
theorem dX3_arrivedAt_15 : decode cX3_arrivedAt 15 = .ok (.iconst 1, 1) := by decide +kernel
theorem dX3_arrivedAt_16 : decode cX3_arrivedAt 16 = .ok (.goto 4, 3) := by decide +kernel
theorem dX3_arrivedAt_19 : decode cX3_arrivedAt 19 = .ok (.iconst 0, 1) := by decide +kernel
theorem dX3_arrivedAt_20 : decode cX3_arrivedAt 20 = .ok (.ireturn, 1) := by decide +kernel
theorem dX3_depart_0 : decode cX3_depart 0 = .ok (.aload_n 0, 1) := by decide +kernel
theorem dX3_depart_1 : decode cX3_depart 1 = .ok (.iconst 1, 1) := by decide +kernel
theorem dX3_depart_2 : decode cX3_depart 2 = .ok (.putfield 25, 3) := by decide +kernel
theorem dX3_depart_5 : decode cX3_depart 5 = .ok (.aload_n 0, 1) := by decide +kernel
theorem dX3_depart_6 : decode cX3_depart 6 = .ok (.iconst 0, 1) := by decide +kernel
theorem dX3_depart_7 : decode cX3_depart 7 = .ok (.putfield 35, 3) := by decide +kernel
theorem dX3_depart_10 : decode cX3_depart 10 = .ok (.aload_n 0, 1) := by decide +kernel
theorem dX3_depart_11 : decode cX3_depart 11 = .ok (.iload_n 1, 1) := by decide +kernel
theorem dX3_depart_12 : decode cX3_depart 12 = .ok (.putfield 29, 3) := by decide +kernel
theorem dX3_depart_15 : decode cX3_depart 15 = .ok (.aload_n 0, 1) := by decide +kernel
theorem dX3_depart_16 : decode cX3_depart 16 = .ok (.dup, 1) := by decide +kernel
theorem dX3_depart_17 : decode cX3_depart 17 = .ok (.getfield 38, 3) := by decide +kernel
theorem dX3_depart_20 : decode cX3_depart 20 = .ok (.iconst 1, 1) := by decide +kernel
theorem dX3_depart_21 : decode cX3_depart 21 = .ok (.iadd, 1) := by decide +kernel
theorem dX3_depart_22 : decode cX3_depart 22 = .ok (.putfield 38, 3) := by decide +kernel
theorem dX3_depart_25 : decode cX3_depart 25 = .ok (.return_, 1) := by decide +kernel
theorem dX3_stay_0 : decode cX3_stay 0 = .ok (.aload_n 0, 1) := by decide +kernel
theorem dX3_stay_1 : decode cX3_stay 1 = .ok (.dup, 1) := by decide +kernel
theorem dX3_stay_2 : decode cX3_stay 2 = .ok (.getfield 44, 3) := by decide +kernel
theorem dX3_stay_5 : decode cX3_stay 5 = .ok (.iconst 1, 1) := by decide +kernel
theorem dX3_stay_6 : decode cX3_stay 6 = .ok (.iadd, 1) := by decide +kernel
theorem dX3_stay_7 : decode cX3_stay 7 = .ok (.putfield 44, 3) := by decide +kernel
theorem dX3_stay_10 : decode cX3_stay 10 = .ok (.iload_n 1, 1) := by decide +kernel
theorem dX3_stay_11 : decode cX3_stay 11 = .ok (.ifCond .eq 13, 3) := by decide +kernel
theorem dX3_stay_14 : decode cX3_stay 14 = .ok (.aload_n 0, 1) := by decide +kernel
theorem dX3_stay_15 : decode cX3_stay 15 = .ok (.dup, 1) := by decide +kernel
theorem dX3_stay_16 : decode cX3_stay 16 = .ok (.getfield 47, 3) := by decide +kernel
theorem dX3_stay_19 : decode cX3_stay 19 = .ok (.iconst 1, 1) := by decide +kernel
theorem dX3_stay_20 : decode cX3_stay 20 = .ok (.iadd, 1) := by decide +kernel
theorem dX3_stay_21 : decode cX3_stay 21 = .ok (.putfield 47, 3) := by decide +kernel
theorem dX3_stay_24 : decode cX3_stay 24 = .ok (.return_, 1) := by decide +kernel
theorem dX3_crossingsLeft_0 : decode cX3_crossingsLeft 0 = .ok (.aload_n 0, 1) := by decide +kernel
theorem dX3_crossingsLeft_1 : decode cX3_crossingsLeft 1 = .ok (.getfield 12, 3) := by decide +kernel
theorem dX3_crossingsLeft_4 : decode cX3_crossingsLeft 4 = .ok (.getfield 68, 3) := by decide +kernel
theorem dX3_crossingsLeft_7 : decode cX3_crossingsLeft 7 = .ok (.aload_n 0, 1) := by decide +kernel
theorem dX3_crossingsLeft_8 : decode cX3_crossingsLeft 8 = .ok (.getfield 38, 3) := by decide +kernel
theorem dX3_crossingsLeft_11 : decode cX3_crossingsLeft 11 = .ok (.isub, 1) := by decide +kernel
theorem dX3_crossingsLeft_12 : decode cX3_crossingsLeft 12 = .ok (.ireturn, 1) := by decide +kernel
theorem dX3_isLesson_0 : decode cX3_isLesson 0 = .ok (.aload_n 0, 1) := by decide +kernel
theorem dX3_isLesson_1 : decode cX3_isLesson 1 = .ok (.getfield 41, 3) := by decide +kernel
theorem dX3_isLesson_4 : decode cX3_isLesson 4 = .ok (.iload_n 1, 1) := by decide +kernel
theorem dX3_isLesson_5 : decode cX3_isLesson 5 = .ok (.if_icmp .lt 7, 3) := by decide +kernel
theorem dX3_isLesson_8 : decode cX3_isLesson 8 = .ok (.iconst 1, 1) := by decide +kernel
theorem dX3_isLesson_9 : decode cX3_isLesson 9 = .ok (.goto 4, 3) := by decide +kernel
theorem dX3_isLesson_12 : decode cX3_isLesson 12 = .ok (.iconst 0, 1) := by decide +kernel
theorem dX3_isLesson_13 : decode cX3_isLesson 13 = .ok (.ireturn, 1) := by decide +kernel
theorem dX3_tell_0 : decode cX3_tell 0 = .ok (.iload_n 1, 1) := by decide +kernel
theorem dX3_tell_1 : decode cX3_tell 1 = .ok (.tableswitch 55 5 9 #[35, 40, 45, 55, 50], 35) := by decide +kernel
theorem dX3_tell_36 : decode cX3_tell 36 = .ok (.aload_n 0, 1) := by decide +kernel
theorem dX3_tell_37 : decode cX3_tell 37 = .ok (.getfield 38, 3) := by decide +kernel
theorem dX3_tell_40 : decode cX3_tell 40 = .ok (.ireturn, 1) := by decide +kernel
theorem dX3_tell_41 : decode cX3_tell 41 = .ok (.aload_n 0, 1) := by decide +kernel
theorem dX3_tell_42 : decode cX3_tell 42 = .ok (.getfield 41, 3) := by decide +kernel
theorem dX3_tell_45 : decode cX3_tell 45 = .ok (.ireturn, 1) := by decide +kernel
theorem dX3_tell_46 : decode cX3_tell 46 = .ok (.aload_n 0, 1) := by decide +kernel
theorem dX3_tell_47 : decode cX3_tell 47 = .ok (.getfield 44, 3) := by decide +kernel
theorem dX3_tell_50 : decode cX3_tell 50 = .ok (.ireturn, 1) := by decide +kernel
theorem dX3_tell_51 : decode cX3_tell 51 = .ok (.aload_n 0, 1) := by decide +kernel
theorem dX3_tell_52 : decode cX3_tell 52 = .ok (.invokevirtual 71, 3) := by decide +kernel
theorem dX3_tell_55 : decode cX3_tell 55 = .ok (.ireturn, 1) := by decide +kernel
theorem dX3_tell_56 : decode cX3_tell 56 = .ok (.iconst 0, 1) := by decide +kernel
theorem dX3_tell_57 : decode cX3_tell 57 = .ok (.ireturn, 1) := by decide +kernel
theorem dX4_init_0 : decode cX4_init 0 = .ok (.aload_n 0, 1) := by decide +kernel
theorem dX4_init_1 : decode cX4_init 1 = .ok (.invokespecial 3, 3) := by decide +kernel
theorem dX4_init_4 : decode cX4_init 4 = .ok (.aload_n 0, 1) := by decide +kernel
theorem dX4_init_5 : decode cX4_init 5 = .ok (.iconst 3, 1) := by decide +kernel
theorem dX4_init_6 : decode cX4_init 6 = .ok (.anewarray 9, 3) := by decide +kernel
theorem dX4_init_9 : decode cX4_init 9 = .ok (.dup, 1) := by decide +kernel
theorem dX4_init_10 : decode cX4_init 10 = .ok (.iconst 0, 1) := by decide +kernel
theorem dX4_init_11 : decode cX4_init 11 = .ok (.new 9, 3) := by decide +kernel
theorem dX4_init_14 : decode cX4_init 14 = .ok (.dup, 1) := by decide +kernel
theorem dX4_init_15 : decode cX4_init 15 = .ok (.invokespecial 11, 3) := by decide +kernel
theorem dX4_init_18 : decode cX4_init 18 = .ok (.aastore, 1) := by decide +kernel
theorem dX4_init_19 : decode cX4_init 19 = .ok (.dup, 1) := by decide +kernel
theorem dX4_init_20 : decode cX4_init 20 = .ok (.iconst 1, 1) := by decide +kernel
theorem dX4_init_21 : decode cX4_init 21 = .ok (.new 9, 3) := by decide +kernel
theorem dX4_init_24 : decode cX4_init 24 = .ok (.dup, 1) := by decide +kernel
theorem dX4_init_25 : decode cX4_init 25 = .ok (.invokespecial 11, 3) := by decide +kernel
theorem dX4_init_28 : decode cX4_init 28 = .ok (.aastore, 1) := by decide +kernel
theorem dX4_init_29 : decode cX4_init 29 = .ok (.dup, 1) := by decide +kernel
theorem dX4_init_30 : decode cX4_init 30 = .ok (.iconst 2, 1) := by decide +kernel
theorem dX4_init_31 : decode cX4_init 31 = .ok (.new 9, 3) := by decide +kernel
theorem dX4_init_34 : decode cX4_init 34 = .ok (.dup, 1) := by decide +kernel
theorem dX4_init_35 : decode cX4_init 35 = .ok (.invokespecial 11, 3) := by decide +kernel
theorem dX4_init_38 : decode cX4_init 38 = .ok (.aastore, 1) := by decide +kernel
theorem dX4_init_39 : decode cX4_init 39 = .ok (.putfield 12, 3) := by decide +kernel
theorem dX4_init_42 : decode cX4_init 42 = .ok (.aload_n 0, 1) := by decide +kernel
theorem dX4_init_43 : decode cX4_init 43 = .ok (.iconst 0, 1) := by decide +kernel
theorem dX4_init_44 : decode cX4_init 44 = .ok (.putfield 18, 3) := by decide +kernel
theorem dX4_init_47 : decode cX4_init 47 = .ok (.aload_n 0, 1) := by decide +kernel
theorem dX4_init_48 : decode cX4_init 48 = .ok (.iconst 0, 1) := by decide +kernel
theorem dX4_init_49 : decode cX4_init 49 = .ok (.putfield 22, 3) := by decide +kernel
theorem dX4_init_52 : decode cX4_init 52 = .ok (.return_, 1) := by decide +kernel
theorem dX4_run_0 : decode cX4_run 0 = .ok (.aload_n 0, 1) := by decide +kernel
theorem dX4_run_1 : decode cX4_run 1 = .ok (.aload_n 1, 1) := by decide +kernel
theorem dX4_run_2 : decode cX4_run 2 = .ok (.getfield 25, 3) := by decide +kernel
theorem dX4_run_5 : decode cX4_run 5 = .ok (.putfield 18, 3) := by decide +kernel
theorem dX4_run_8 : decode cX4_run 8 = .ok (.aload_n 0, 1) := by decide +kernel
theorem dX4_run_9 : decode cX4_run 9 = .ok (.iconst 0, 1) := by decide +kernel
theorem dX4_run_10 : decode cX4_run 10 = .ok (.putfield 22, 3) := by decide +kernel
theorem dX4_run_13 : decode cX4_run 13 = .ok (.iconst 0, 1) := by decide +kernel
theorem dX4_run_14 : decode cX4_run 14 = .ok (.istore_n 2, 1) := by decide +kernel
theorem dX4_run_15 : decode cX4_run 15 = .ok (.iload_n 2, 1) := by decide +kernel
theorem dX4_run_16 : decode cX4_run 16 = .ok (.iconst 3, 1) := by decide +kernel
theorem dX4_run_17 : decode cX4_run 17 = .ok (.if_icmp .ge 24, 3) := by decide +kernel
theorem dX4_run_20 : decode cX4_run 20 = .ok (.aload_n 0, 1) := by decide +kernel
theorem dX4_run_21 : decode cX4_run 21 = .ok (.getfield 12, 3) := by decide +kernel
theorem dX4_run_24 : decode cX4_run 24 = .ok (.iload_n 2, 1) := by decide +kernel
theorem dX4_run_25 : decode cX4_run 25 = .ok (.aaload, 1) := by decide +kernel
theorem dX4_run_26 : decode cX4_run 26 = .ok (.aload_n 1, 1) := by decide +kernel
theorem dX4_run_27 : decode cX4_run 27 = .ok (.getfield 28, 3) := by decide +kernel
theorem dX4_run_30 : decode cX4_run 30 = .ok (.iload_n 2, 1) := by decide +kernel
theorem dX4_run_31 : decode cX4_run 31 = .ok (.aaload, 1) := by decide +kernel
theorem dX4_run_32 : decode cX4_run 32 = .ok (.invokevirtual 32, 3) := by decide +kernel
theorem dX4_run_35 : decode cX4_run 35 = .ok (.iinc 2 1, 3) := by decide +kernel
theorem dX4_run_38 : decode cX4_run 38 = .ok (.goto (-23), 3) := by decide +kernel
theorem dX4_run_41 : decode cX4_run 41 = .ok (.iconst 0, 1) := by decide +kernel
theorem dX4_run_42 : decode cX4_run 42 = .ok (.istore_n 2, 1) := by decide +kernel
theorem dX4_run_43 : decode cX4_run 43 = .ok (.iload_n 2, 1) := by decide +kernel
theorem dX4_run_44 : decode cX4_run 44 = .ok (.bipush 24, 2) := by decide +kernel
theorem dX4_run_46 : decode cX4_run 46 = .ok (.if_icmp .ge 81, 3) := by decide +kernel
theorem dX4_run_49 : decode cX4_run 49 = .ok (.aload_n 1, 1) := by decide +kernel
theorem dX4_run_50 : decode cX4_run 50 = .ok (.getfield 36, 3) := by decide +kernel
theorem dX4_run_53 : decode cX4_run 53 = .ok (.iload_n 2, 1) := by decide +kernel
theorem dX4_run_54 : decode cX4_run 54 = .ok (.invokestatic 39, 3) := by decide +kernel
theorem dX4_run_57 : decode cX4_run 57 = .ok (.istore_n 3, 1) := by decide +kernel
theorem dX4_run_58 : decode cX4_run 58 = .ok (.aload_n 0, 1) := by decide +kernel
theorem dX4_run_59 : decode cX4_run 59 = .ok (.getfield 12, 3) := by decide +kernel
theorem dX4_run_62 : decode cX4_run 62 = .ok (.astore 4, 2) := by decide +kernel
theorem dX4_run_64 : decode cX4_run 64 = .ok (.aload 4, 2) := by decide +kernel
theorem dX4_run_66 : decode cX4_run 66 = .ok (.arraylength, 1) := by decide +kernel
theorem dX4_run_67 : decode cX4_run 67 = .ok (.istore 5, 2) := by decide +kernel
theorem dX4_run_69 : decode cX4_run 69 = .ok (.iconst 0, 1) := by decide +kernel
theorem dX4_run_70 : decode cX4_run 70 = .ok (.istore 6, 2) := by decide +kernel
theorem dX4_run_72 : decode cX4_run 72 = .ok (.iload 6, 2) := by decide +kernel
theorem dX4_run_74 : decode cX4_run 74 = .ok (.iload 5, 2) := by decide +kernel
theorem dX4_run_76 : decode cX4_run 76 = .ok (.if_icmp .ge 23, 3) := by decide +kernel
theorem dX4_run_79 : decode cX4_run 79 = .ok (.aload 4, 2) := by decide +kernel
theorem dX4_run_81 : decode cX4_run 81 = .ok (.iload 6, 2) := by decide +kernel
theorem dX4_run_83 : decode cX4_run 83 = .ok (.aaload, 1) := by decide +kernel
theorem dX4_run_84 : decode cX4_run 84 = .ok (.astore 7, 2) := by decide +kernel
theorem dX4_run_86 : decode cX4_run 86 = .ok (.aload 7, 2) := by decide +kernel
theorem dX4_run_88 : decode cX4_run 88 = .ok (.iload_n 2, 1) := by decide +kernel
theorem dX4_run_89 : decode cX4_run 89 = .ok (.iload_n 3, 1) := by decide +kernel
theorem dX4_run_90 : decode cX4_run 90 = .ok (.invokevirtual 43, 3) := by decide +kernel
theorem dX4_run_93 : decode cX4_run 93 = .ok (.iinc 6 1, 3) := by decide +kernel
theorem dX4_run_96 : decode cX4_run 96 = .ok (.goto (-24), 3) := by decide +kernel
theorem dX4_run_99 : decode cX4_run 99 = .ok (.iconst 0, 1) := by decide +kernel
theorem dX4_run_100 : decode cX4_run 100 = .ok (.istore 4, 2) := by decide +kernel
theorem dX4_run_102 : decode cX4_run 102 = .ok (.iload 4, 2) := by decide +kernel
theorem dX4_run_104 : decode cX4_run 104 = .ok (.iconst 2, 1) := by decide +kernel
theorem dX4_run_105 : decode cX4_run 105 = .ok (.if_icmp .ge 16, 3) := by decide +kernel
theorem dX4_run_108 : decode cX4_run 108 = .ok (.aload_n 0, 1) := by decide +kernel
theorem dX4_run_109 : decode cX4_run 109 = .ok (.iload 4, 2) := by decide +kernel
theorem dX4_run_111 : decode cX4_run 111 = .ok (.iload_n 2, 1) := by decide +kernel
theorem dX4_run_112 : decode cX4_run 112 = .ok (.invokevirtual 47, 3) := by decide +kernel
theorem dX4_run_115 : decode cX4_run 115 = .ok (.iinc 4 1, 3) := by decide +kernel
theorem dX4_run_118 : decode cX4_run 118 = .ok (.goto (-16), 3) := by decide +kernel
theorem dX4_run_121 : decode cX4_run 121 = .ok (.iinc 2 1, 3) := by decide +kernel
theorem dX4_run_124 : decode cX4_run 124 = .ok (.goto (-81), 3) := by decide +kernel
theorem dX4_run_127 : decode cX4_run 127 = .ok (.return_, 1) := by decide +kernel
theorem dX4_givePier_0 : decode cX4_givePier 0 = .ok (.iconst 0, 1) := by decide +kernel
theorem dX4_givePier_1 : decode cX4_givePier 1 = .ok (.istore_n 3, 1) := by decide +kernel
theorem dX4_givePier_2 : decode cX4_givePier 2 = .ok (.iconst 0, 1) := by decide +kernel
theorem dX4_givePier_3 : decode cX4_givePier 3 = .ok (.istore 4, 2) := by decide +kernel
theorem dX4_givePier_5 : decode cX4_givePier 5 = .ok (.aload_n 0, 1) := by decide +kernel
theorem dX4_givePier_6 : decode cX4_givePier 6 = .ok (.getfield 12, 3) := by decide +kernel
theorem dX4_givePier_9 : decode cX4_givePier 9 = .ok (.astore 5, 2) := by decide +kernel
theorem dX4_givePier_11 : decode cX4_givePier 11 = .ok (.aload 5, 2) := by decide +kernel
theorem dX4_givePier_13 : decode cX4_givePier 13 = .ok (.arraylength, 1) := by decide +kernel
theorem dX4_givePier_14 : decode cX4_givePier 14 = .ok (.istore 6, 2) := by decide +kernel
theorem dX4_givePier_16 : decode cX4_givePier 16 = .ok (.iconst 0, 1) := by decide +kernel
theorem dX4_givePier_17 : decode cX4_givePier 17 = .ok (.istore 7, 2) := by decide +kernel
theorem dX4_givePier_19 : decode cX4_givePier 19 = .ok (.iload 7, 2) := by decide +kernel
theorem dX4_givePier_21 : decode cX4_givePier 21 = .ok (.iload 6, 2) := by decide +kernel
theorem dX4_givePier_23 : decode cX4_givePier 23 = .ok (.if_icmp .ge 45, 3) := by decide +kernel
theorem dX4_givePier_26 : decode cX4_givePier 26 = .ok (.aload 5, 2) := by decide +kernel
theorem dX4_givePier_28 : decode cX4_givePier 28 = .ok (.iload 7, 2) := by decide +kernel
theorem dX4_givePier_30 : decode cX4_givePier 30 = .ok (.aaload, 1) := by decide +kernel
theorem dX4_givePier_31 : decode cX4_givePier 31 = .ok (.astore 8, 2) := by decide +kernel
theorem dX4_givePier_33 : decode cX4_givePier 33 = .ok (.iload_n 3, 1) := by decide +kernel
theorem dX4_givePier_34 : decode cX4_givePier 34 = .ok (.aload 8, 2) := by decide +kernel
theorem dX4_givePier_36 : decode cX4_givePier 36 = .ok (.iload_n 1, 1) := by decide +kernel
theorem dX4_givePier_37 : decode cX4_givePier 37 = .ok (.invokevirtual 50, 3) := by decide +kernel
theorem dX4_givePier_40 : decode cX4_givePier 40 = .ok (.ifCond .eq 7, 3) := by decide +kernel
theorem dX4_givePier_43 : decode cX4_givePier 43 = .ok (.iconst 1, 1) := by decide +kernel
theorem dX4_givePier_44 : decode cX4_givePier 44 = .ok (.goto 4, 3) := by decide +kernel
theorem dX4_givePier_47 : decode cX4_givePier 47 = .ok (.iconst 0, 1) := by decide +kernel
theorem dX4_givePier_48 : decode cX4_givePier 48 = .ok (.iadd, 1) := by decide +kernel
theorem dX4_givePier_49 : decode cX4_givePier 49 = .ok (.istore_n 3, 1) := by decide +kernel
theorem dX4_givePier_50 : decode cX4_givePier 50 = .ok (.aload 8, 2) := by decide +kernel
theorem dX4_givePier_52 : decode cX4_givePier 52 = .ok (.iload_n 1, 1) := by decide +kernel
theorem dX4_givePier_53 : decode cX4_givePier 53 = .ok (.invokevirtual 54, 3) := by decide +kernel
theorem dX4_givePier_56 : decode cX4_givePier 56 = .ok (.ifCond .eq 6, 3) := by decide +kernel
theorem dX4_givePier_59 : decode cX4_givePier 59 = .ok (.iconst 1, 1) := by decide +kernel
theorem dX4_givePier_60 : decode cX4_givePier 60 = .ok (.istore 4, 2) := by decide +kernel
theorem dX4_givePier_62 : decode cX4_givePier 62 = .ok (.iinc 7 1, 3) := by decide +kernel
theorem dX4_givePier_65 : decode cX4_givePier 65 = .ok (.goto (-46), 3) := by decide +kernel
theorem dX4_givePier_68 : decode cX4_givePier 68 = .ok (.iload 4, 2) := by decide +kernel
theorem dX4_givePier_70 : decode cX4_givePier 70 = .ok (.ifCond .ne 12, 3) := by decide +kernel
theorem dX4_givePier_73 : decode cX4_givePier 73 = .ok (.iload_n 3, 1) := by decide +kernel
theorem dX4_givePier_74 : decode cX4_givePier 74 = .ok (.iconst 1, 1) := by decide +kernel
theorem dX4_givePier_75 : decode cX4_givePier 75 = .ok (.if_icmp .le 7, 3) := by decide +kernel
theorem dX4_givePier_78 : decode cX4_givePier 78 = .ok (.iconst 1, 1) := by decide +kernel
theorem dX4_givePier_79 : decode cX4_givePier 79 = .ok (.goto 4, 3) := by decide +kernel
theorem dX4_givePier_82 : decode cX4_givePier 82 = .ok (.iconst 0, 1) := by decide +kernel
theorem dX4_givePier_83 : decode cX4_givePier 83 = .ok (.istore 5, 2) := by decide +kernel
theorem dX4_givePier_85 : decode cX4_givePier 85 = .ok (.iload 5, 2) := by decide +kernel
theorem dX4_givePier_87 : decode cX4_givePier 87 = .ok (.ifCond .eq 11, 3) := by decide +kernel
theorem dX4_givePier_90 : decode cX4_givePier 90 = .ok (.aload_n 0, 1) := by decide +kernel
theorem dX4_givePier_91 : decode cX4_givePier 91 = .ok (.iload_n 3, 1) := by decide +kernel
theorem dX4_givePier_92 : decode cX4_givePier 92 = .ok (.invokevirtual 57, 3) := by decide +kernel
theorem dX4_givePier_95 : decode cX4_givePier 95 = .ok (.goto 4, 3) := by decide +kernel
theorem dX4_givePier_98 : decode cX4_givePier 98 = .ok (.iconst 0, 1) := by decide +kernel
theorem dX4_givePier_99 : decode cX4_givePier 99 = .ok (.istore 6, 2) := by decide +kernel
theorem dX4_givePier_101 : decode cX4_givePier 101 = .ok (.iconst 0, 1) := by decide +kernel
theorem dX4_givePier_102 : decode cX4_givePier 102 = .ok (.istore 7, 2) := by decide +kernel
theorem dX4_givePier_104 : decode cX4_givePier 104 = .ok (.aload_n 0, 1) := by decide +kernel
theorem dX4_givePier_105 : decode cX4_givePier 105 = .ok (.getfield 12, 3) := by decide +kernel
theorem dX4_givePier_108 : decode cX4_givePier 108 = .ok (.astore 8, 2) := by decide +kernel
theorem dX4_givePier_110 : decode cX4_givePier 110 = .ok (.aload 8, 2) := by decide +kernel
theorem dX4_givePier_112 : decode cX4_givePier 112 = .ok (.arraylength, 1) := by decide +kernel
theorem dX4_givePier_113 : decode cX4_givePier 113 = .ok (.istore 9, 2) := by decide +kernel
theorem dX4_givePier_115 : decode cX4_givePier 115 = .ok (.iconst 0, 1) := by decide +kernel
theorem dX4_givePier_116 : decode cX4_givePier 116 = .ok (.istore 10, 2) := by decide +kernel
theorem dX4_givePier_118 : decode cX4_givePier 118 = .ok (.iload 10, 2) := by decide +kernel
theorem dX4_givePier_120 : decode cX4_givePier 120 = .ok (.iload 9, 2) := by decide +kernel
theorem dX4_givePier_122 : decode cX4_givePier 122 = .ok (.if_icmp .ge 56, 3) := by decide +kernel
theorem dX4_givePier_125 : decode cX4_givePier 125 = .ok (.aload 8, 2) := by decide +kernel
theorem dX4_givePier_127 : decode cX4_givePier 127 = .ok (.iload 10, 2) := by decide +kernel
theorem dX4_givePier_129 : decode cX4_givePier 129 = .ok (.aaload, 1) := by decide +kernel
theorem dX4_givePier_130 : decode cX4_givePier 130 = .ok (.astore 11, 2) := by decide +kernel
theorem dX4_givePier_132 : decode cX4_givePier 132 = .ok (.aload 11, 2) := by decide +kernel
theorem dX4_givePier_134 : decode cX4_givePier 134 = .ok (.iload_n 1, 1) := by decide +kernel
theorem dX4_givePier_135 : decode cX4_givePier 135 = .ok (.invokevirtual 50, 3) := by decide +kernel
theorem dX4_givePier_138 : decode cX4_givePier 138 = .ok (.ifCond .eq 34, 3) := by decide +kernel
theorem dX4_givePier_141 : decode cX4_givePier 141 = .ok (.iload 4, 2) := by decide +kernel
theorem dX4_givePier_143 : decode cX4_givePier 143 = .ok (.ifCond .ne 19, 3) := by decide +kernel
theorem dX4_givePier_146 : decode cX4_givePier 146 = .ok (.iload 7, 2) := by decide +kernel
theorem dX4_givePier_148 : decode cX4_givePier 148 = .ok (.iload 6, 2) := by decide +kernel
theorem dX4_givePier_150 : decode cX4_givePier 150 = .ok (.if_icmp .ne 12, 3) := by decide +kernel
theorem dX4_givePier_153 : decode cX4_givePier 153 = .ok (.aload 11, 2) := by decide +kernel
theorem dX4_givePier_155 : decode cX4_givePier 155 = .ok (.iload_n 2, 1) := by decide +kernel
theorem dX4_givePier_156 : decode cX4_givePier 156 = .ok (.invokevirtual 61, 3) := by decide +kernel
theorem dX4_givePier_159 : decode cX4_givePier 159 = .ok (.goto 10, 3) := by decide +kernel
theorem dX4_givePier_162 : decode cX4_givePier 162 = .ok (.aload 11, 2) := by decide +kernel
theorem dX4_givePier_164 : decode cX4_givePier 164 = .ok (.iload 5, 2) := by decide +kernel
theorem dX4_givePier_166 : decode cX4_givePier 166 = .ok (.invokevirtual 65, 3) := by decide +kernel
theorem dX4_givePier_169 : decode cX4_givePier 169 = .ok (.iinc 7 1, 3) := by decide +kernel
theorem dX4_givePier_172 : decode cX4_givePier 172 = .ok (.iinc 10 1, 3) := by decide +kernel
theorem dX4_givePier_175 : decode cX4_givePier 175 = .ok (.goto (-57), 3) := by decide +kernel
theorem dX4_givePier_178 : decode cX4_givePier 178 = .ok (.return_, 1) := by decide +kernel
theorem dX4_drawLot_0 : decode cX4_drawLot 0 = .ok (.aload_n 0, 1) := by decide +kernel
theorem dX4_drawLot_1 : decode cX4_drawLot 1 = .ok (.bipush 75, 2) := by decide +kernel
theorem dX4_drawLot_3 : decode cX4_drawLot 3 = .ok (.aload_n 0, 1) := by decide +kernel
theorem dX4_drawLot_4 : decode cX4_drawLot 4 = .ok (.getfield 18, 3) := by decide +kernel
theorem dX4_drawLot_7 : decode cX4_drawLot 7 = .ok (.imul, 1) := by decide +kernel
theorem dX4_drawLot_8 : decode cX4_drawLot 8 = .ok (.bipush 74, 2) := by decide +kernel
theorem dX4_drawLot_10 : decode cX4_drawLot 10 = .ok (.iadd, 1) := by decide +kernel
theorem dX4_drawLot_11 : decode cX4_drawLot 11 = .ok (.ldc 69, 2) := by decide +kernel
theorem dX4_drawLot_13 : decode cX4_drawLot 13 = .ok (.irem, 1) := by decide +kernel
theorem dX4_drawLot_14 : decode cX4_drawLot 14 = .ok (.putfield 18, 3) := by decide +kernel
theorem dX4_drawLot_17 : decode cX4_drawLot 17 = .ok (.aload_n 0, 1) := by decide +kernel
theorem dX4_drawLot_18 : decode cX4_drawLot 18 = .ok (.dup, 1) := by decide +kernel
theorem dX4_drawLot_19 : decode cX4_drawLot 19 = .ok (.getfield 22, 3) := by decide +kernel
theorem dX4_drawLot_22 : decode cX4_drawLot 22 = .ok (.iconst 1, 1) := by decide +kernel
theorem dX4_drawLot_23 : decode cX4_drawLot 23 = .ok (.iadd, 1) := by decide +kernel
theorem dX4_drawLot_24 : decode cX4_drawLot 24 = .ok (.putfield 22, 3) := by decide +kernel
theorem dX4_drawLot_27 : decode cX4_drawLot 27 = .ok (.iload_n 1, 1) := by decide +kernel
theorem dX4_drawLot_28 : decode cX4_drawLot 28 = .ok (.ifCond .le 12, 3) := by decide +kernel
theorem dX4_drawLot_31 : decode cX4_drawLot 31 = .ok (.aload_n 0, 1) := by decide +kernel
theorem dX4_drawLot_32 : decode cX4_drawLot 32 = .ok (.getfield 18, 3) := by decide +kernel
theorem dX4_drawLot_35 : decode cX4_drawLot 35 = .ok (.iload_n 1, 1) := by decide +kernel
theorem dX4_drawLot_36 : decode cX4_drawLot 36 = .ok (.irem, 1) := by decide +kernel
theorem dX4_drawLot_37 : decode cX4_drawLot 37 = .ok (.goto 4, 3) := by decide +kernel
theorem dX4_drawLot_40 : decode cX4_drawLot 40 = .ok (.iconst 0, 1) := by decide +kernel
theorem dX4_drawLot_41 : decode cX4_drawLot 41 = .ok (.ireturn, 1) := by decide +kernel
theorem dX4_sumOf_0 : decode cX4_sumOf 0 = .ok (.iconst 0, 1) := by decide +kernel
theorem dX4_sumOf_1 : decode cX4_sumOf 1 = .ok (.istore_n 2, 1) := by decide +kernel
theorem dX4_sumOf_2 : decode cX4_sumOf 2 = .ok (.aload_n 0, 1) := by decide +kernel
theorem dX4_sumOf_3 : decode cX4_sumOf 3 = .ok (.getfield 12, 3) := by decide +kernel
theorem dX4_sumOf_6 : decode cX4_sumOf 6 = .ok (.astore_n 3, 1) := by decide +kernel
theorem dX4_sumOf_7 : decode cX4_sumOf 7 = .ok (.aload_n 3, 1) := by decide +kernel
theorem dX4_sumOf_8 : decode cX4_sumOf 8 = .ok (.arraylength, 1) := by decide +kernel
theorem dX4_sumOf_9 : decode cX4_sumOf 9 = .ok (.istore 4, 2) := by decide +kernel
theorem dX4_sumOf_11 : decode cX4_sumOf 11 = .ok (.iconst 0, 1) := by decide +kernel
theorem dX4_sumOf_12 : decode cX4_sumOf 12 = .ok (.istore 5, 2) := by decide +kernel
theorem dX4_sumOf_14 : decode cX4_sumOf 14 = .ok (.iload 5, 2) := by decide +kernel
theorem dX4_sumOf_16 : decode cX4_sumOf 16 = .ok (.iload 4, 2) := by decide +kernel
theorem dX4_sumOf_18 : decode cX4_sumOf 18 = .ok (.if_icmp .ge 24, 3) := by decide +kernel
theorem dX4_sumOf_21 : decode cX4_sumOf 21 = .ok (.aload_n 3, 1) := by decide +kernel
theorem dX4_sumOf_22 : decode cX4_sumOf 22 = .ok (.iload 5, 2) := by decide +kernel
theorem dX4_sumOf_24 : decode cX4_sumOf 24 = .ok (.aaload, 1) := by decide +kernel
theorem dX4_sumOf_25 : decode cX4_sumOf 25 = .ok (.astore 6, 2) := by decide +kernel
theorem dX4_sumOf_27 : decode cX4_sumOf 27 = .ok (.iload_n 2, 1) := by decide +kernel
theorem dX4_sumOf_28 : decode cX4_sumOf 28 = .ok (.aload 6, 2) := by decide +kernel
theorem dX4_sumOf_30 : decode cX4_sumOf 30 = .ok (.iload_n 1, 1) := by decide +kernel
theorem dX4_sumOf_31 : decode cX4_sumOf 31 = .ok (.invokevirtual 70, 3) := by decide +kernel
theorem dX4_sumOf_34 : decode cX4_sumOf 34 = .ok (.iadd, 1) := by decide +kernel
theorem dX4_sumOf_35 : decode cX4_sumOf 35 = .ok (.istore_n 2, 1) := by decide +kernel
theorem dX4_sumOf_36 : decode cX4_sumOf 36 = .ok (.iinc 5 1, 3) := by decide +kernel
theorem dX4_sumOf_39 : decode cX4_sumOf 39 = .ok (.goto (-25), 3) := by decide +kernel
theorem dX4_sumOf_42 : decode cX4_sumOf 42 = .ok (.iload_n 2, 1) := by decide +kernel
theorem dX4_sumOf_43 : decode cX4_sumOf 43 = .ok (.ireturn, 1) := by decide +kernel
theorem dX4_learners_0 : decode cX4_learners 0 = .ok (.iconst 0, 1) := by decide +kernel
theorem dX4_learners_1 : decode cX4_learners 1 = .ok (.istore_n 2, 1) := by decide +kernel
theorem dX4_learners_2 : decode cX4_learners 2 = .ok (.iconst 0, 1) := by decide +kernel
theorem dX4_learners_3 : decode cX4_learners 3 = .ok (.istore_n 3, 1) := by decide +kernel
theorem dX4_learners_4 : decode cX4_learners 4 = .ok (.iload_n 3, 1) := by decide +kernel
theorem dX4_learners_5 : decode cX4_learners 5 = .ok (.iconst 3, 1) := by decide +kernel
theorem dX4_learners_6 : decode cX4_learners 6 = .ok (.if_icmp .ge 28, 3) := by decide +kernel
theorem dX4_learners_9 : decode cX4_learners 9 = .ok (.aload_n 0, 1) := by decide +kernel
theorem dX4_learners_10 : decode cX4_learners 10 = .ok (.getfield 12, 3) := by decide +kernel
theorem dX4_learners_13 : decode cX4_learners 13 = .ok (.iload_n 3, 1) := by decide +kernel
theorem dX4_learners_14 : decode cX4_learners 14 = .ok (.aaload, 1) := by decide +kernel
theorem dX4_learners_15 : decode cX4_learners 15 = .ok (.iload_n 1, 1) := by decide +kernel
theorem dX4_learners_16 : decode cX4_learners 16 = .ok (.invokevirtual 73, 3) := by decide +kernel
theorem dX4_learners_19 : decode cX4_learners 19 = .ok (.ifCond .eq 9, 3) := by decide +kernel
theorem dX4_learners_22 : decode cX4_learners 22 = .ok (.iload_n 2, 1) := by decide +kernel
theorem dX4_learners_23 : decode cX4_learners 23 = .ok (.iconst 1, 1) := by decide +kernel
theorem dX4_learners_24 : decode cX4_learners 24 = .ok (.iload_n 3, 1) := by decide +kernel
theorem dX4_learners_25 : decode cX4_learners 25 = .ok (.ishl, 1) := by decide +kernel
theorem dX4_learners_26 : decode cX4_learners 26 = .ok (.ior, 1) := by decide +kernel
theorem dX4_learners_27 : decode cX4_learners 27 = .ok (.istore_n 2, 1) := by decide +kernel
theorem dX4_learners_28 : decode cX4_learners 28 = .ok (.iinc 3 1, 3) := by decide +kernel
theorem dX4_learners_31 : decode cX4_learners 31 = .ok (.goto (-27), 3) := by decide +kernel
theorem dX4_learners_34 : decode cX4_learners 34 = .ok (.iload_n 2, 1) := by decide +kernel
theorem dX4_learners_35 : decode cX4_learners 35 = .ok (.ireturn, 1) := by decide +kernel
theorem dX5_init_0 : decode cX5_init 0 = .ok (.aload_n 0, 1) := by decide +kernel
theorem dX5_init_1 : decode cX5_init 1 = .ok (.invokespecial 3, 3) := by decide +kernel
theorem dX5_init_4 : decode cX5_init 4 = .ok (.aload_n 0, 1) := by decide +kernel
theorem dX5_init_5 : decode cX5_init 5 = .ok (.iconst 3, 1) := by decide +kernel
theorem dX5_init_6 : decode cX5_init 6 = .ok (.anewarray 9, 3) := by decide +kernel
theorem dX5_init_9 : decode cX5_init 9 = .ok (.dup, 1) := by decide +kernel
theorem dX5_init_10 : decode cX5_init 10 = .ok (.iconst 0, 1) := by decide +kernel
theorem dX5_init_11 : decode cX5_init 11 = .ok (.new 9, 3) := by decide +kernel
theorem dX5_init_14 : decode cX5_init 14 = .ok (.dup, 1) := by decide +kernel
theorem dX5_init_15 : decode cX5_init 15 = .ok (.iconst 0, 1) := by decide +kernel
theorem dX5_init_16 : decode cX5_init 16 = .ok (.invokespecial 11, 3) := by decide +kernel
theorem dX5_init_19 : decode cX5_init 19 = .ok (.aastore, 1) := by decide +kernel
theorem dX5_init_20 : decode cX5_init 20 = .ok (.dup, 1) := by decide +kernel
theorem dX5_init_21 : decode cX5_init 21 = .ok (.iconst 1, 1) := by decide +kernel
theorem dX5_init_22 : decode cX5_init 22 = .ok (.new 9, 3) := by decide +kernel
theorem dX5_init_25 : decode cX5_init 25 = .ok (.dup, 1) := by decide +kernel
theorem dX5_init_26 : decode cX5_init 26 = .ok (.iconst 1, 1) := by decide +kernel
theorem dX5_init_27 : decode cX5_init 27 = .ok (.invokespecial 11, 3) := by decide +kernel
theorem dX5_init_30 : decode cX5_init 30 = .ok (.aastore, 1) := by decide +kernel
theorem dX5_init_31 : decode cX5_init 31 = .ok (.dup, 1) := by decide +kernel
theorem dX5_init_32 : decode cX5_init 32 = .ok (.iconst 2, 1) := by decide +kernel
theorem dX5_init_33 : decode cX5_init 33 = .ok (.new 9, 3) := by decide +kernel
theorem dX5_init_36 : decode cX5_init 36 = .ok (.dup, 1) := by decide +kernel
theorem dX5_init_37 : decode cX5_init 37 = .ok (.iconst 2, 1) := by decide +kernel
theorem dX5_init_38 : decode cX5_init 38 = .ok (.invokespecial 11, 3) := by decide +kernel
theorem dX5_init_41 : decode cX5_init 41 = .ok (.aastore, 1) := by decide +kernel
theorem dX5_init_42 : decode cX5_init 42 = .ok (.putfield 14, 3) := by decide +kernel
theorem dX5_init_45 : decode cX5_init 45 = .ok (.aload_n 0, 1) := by decide +kernel
theorem dX5_init_46 : decode cX5_init 46 = .ok (.iconst 1, 1) := by decide +kernel
theorem dX5_init_47 : decode cX5_init 47 = .ok (.putfield 20, 3) := by decide +kernel
theorem dX5_init_50 : decode cX5_init 50 = .ok (.aload_n 0, 1) := by decide +kernel
theorem dX5_init_51 : decode cX5_init 51 = .ok (.iconst 3, 1) := by decide +kernel
theorem dX5_init_52 : decode cX5_init 52 = .ok (.putfield 24, 3) := by decide +kernel
theorem dX5_init_55 : decode cX5_init 55 = .ok (.aload_n 0, 1) := by decide +kernel
theorem dX5_init_56 : decode cX5_init 56 = .ok (.iconst 0, 1) := by decide +kernel
theorem dX5_init_57 : decode cX5_init 57 = .ok (.putfield 27, 3) := by decide +kernel
theorem dX5_init_60 : decode cX5_init 60 = .ok (.aload_n 0, 1) := by decide +kernel
theorem dX5_init_61 : decode cX5_init 61 = .ok (.iconst 1, 1) := by decide +kernel
theorem dX5_init_62 : decode cX5_init 62 = .ok (.putfield 30, 3) := by decide +kernel
theorem dX5_init_65 : decode cX5_init 65 = .ok (.aload_n 0, 1) := by decide +kernel
theorem dX5_init_66 : decode cX5_init 66 = .ok (.iconst 0, 1) := by decide +kernel
theorem dX5_init_67 : decode cX5_init 67 = .ok (.putfield 33, 3) := by decide +kernel
theorem dX5_init_70 : decode cX5_init 70 = .ok (.aload_n 0, 1) := by decide +kernel
theorem dX5_init_71 : decode cX5_init 71 = .ok (.iconst 0, 1) := by decide +kernel
theorem dX5_init_72 : decode cX5_init 72 = .ok (.putfield 36, 3) := by decide +kernel
theorem dX5_init_75 : decode cX5_init 75 = .ok (.return_, 1) := by decide +kernel
theorem dX5_sumOf_0 : decode cX5_sumOf 0 = .ok (.iconst 0, 1) := by decide +kernel
theorem dX5_sumOf_1 : decode cX5_sumOf 1 = .ok (.istore_n 2, 1) := by decide +kernel
theorem dX5_sumOf_2 : decode cX5_sumOf 2 = .ok (.aload_n 0, 1) := by decide +kernel
theorem dX5_sumOf_3 : decode cX5_sumOf 3 = .ok (.getfield 14, 3) := by decide +kernel
theorem dX5_sumOf_6 : decode cX5_sumOf 6 = .ok (.astore_n 3, 1) := by decide +kernel
theorem dX5_sumOf_7 : decode cX5_sumOf 7 = .ok (.aload_n 3, 1) := by decide +kernel
theorem dX5_sumOf_8 : decode cX5_sumOf 8 = .ok (.arraylength, 1) := by decide +kernel
theorem dX5_sumOf_9 : decode cX5_sumOf 9 = .ok (.istore 4, 2) := by decide +kernel
theorem dX5_sumOf_11 : decode cX5_sumOf 11 = .ok (.iconst 0, 1) := by decide +kernel
theorem dX5_sumOf_12 : decode cX5_sumOf 12 = .ok (.istore 5, 2) := by decide +kernel
theorem dX5_sumOf_14 : decode cX5_sumOf 14 = .ok (.iload 5, 2) := by decide +kernel
theorem dX5_sumOf_16 : decode cX5_sumOf 16 = .ok (.iload 4, 2) := by decide +kernel
theorem dX5_sumOf_18 : decode cX5_sumOf 18 = .ok (.if_icmp .ge 24, 3) := by decide +kernel
theorem dX5_sumOf_21 : decode cX5_sumOf 21 = .ok (.aload_n 3, 1) := by decide +kernel
theorem dX5_sumOf_22 : decode cX5_sumOf 22 = .ok (.iload 5, 2) := by decide +kernel
theorem dX5_sumOf_24 : decode cX5_sumOf 24 = .ok (.aaload, 1) := by decide +kernel
theorem dX5_sumOf_25 : decode cX5_sumOf 25 = .ok (.astore 6, 2) := by decide +kernel
theorem dX5_sumOf_27 : decode cX5_sumOf 27 = .ok (.iload_n 2, 1) := by decide +kernel
theorem dX5_sumOf_28 : decode cX5_sumOf 28 = .ok (.aload 6, 2) := by decide +kernel
theorem dX5_sumOf_30 : decode cX5_sumOf 30 = .ok (.iload_n 1, 1) := by decide +kernel
theorem dX5_sumOf_31 : decode cX5_sumOf 31 = .ok (.invokevirtual 39, 3) := by decide +kernel
theorem dX5_sumOf_34 : decode cX5_sumOf 34 = .ok (.iadd, 1) := by decide +kernel
theorem dX5_sumOf_35 : decode cX5_sumOf 35 = .ok (.istore_n 2, 1) := by decide +kernel
theorem dX5_sumOf_36 : decode cX5_sumOf 36 = .ok (.iinc 5 1, 3) := by decide +kernel
theorem dX5_sumOf_39 : decode cX5_sumOf 39 = .ok (.goto (-25), 3) := by decide +kernel
theorem dX5_sumOf_42 : decode cX5_sumOf 42 = .ok (.iload_n 2, 1) := by decide +kernel
theorem dX5_sumOf_43 : decode cX5_sumOf 43 = .ok (.ireturn, 1) := by decide +kernel
theorem dX5_endDay_0 : decode cX5_endDay 0 = .ok (.aload_n 0, 1) := by decide +kernel
theorem dX5_endDay_1 : decode cX5_endDay 1 = .ok (.dup, 1) := by decide +kernel
theorem dX5_endDay_2 : decode cX5_endDay 2 = .ok (.getfield 36, 3) := by decide +kernel
theorem dX5_endDay_5 : decode cX5_endDay 5 = .ok (.iconst 1, 1) := by decide +kernel
theorem dX5_endDay_6 : decode cX5_endDay 6 = .ok (.iadd, 1) := by decide +kernel
theorem dX5_endDay_7 : decode cX5_endDay 7 = .ok (.putfield 36, 3) := by decide +kernel
theorem dX5_endDay_10 : decode cX5_endDay 10 = .ok (.aload_n 0, 1) := by decide +kernel
theorem dX5_endDay_11 : decode cX5_endDay 11 = .ok (.aload_n 1, 1) := by decide +kernel
theorem dX5_endDay_12 : decode cX5_endDay 12 = .ok (.getfield 43, 3) := by decide +kernel
theorem dX5_endDay_15 : decode cX5_endDay 15 = .ok (.putfield 30, 3) := by decide +kernel
theorem dX5_endDay_18 : decode cX5_endDay 18 = .ok (.aload_n 0, 1) := by decide +kernel
theorem dX5_endDay_19 : decode cX5_endDay 19 = .ok (.dup, 1) := by decide +kernel
theorem dX5_endDay_20 : decode cX5_endDay 20 = .ok (.getfield 33, 3) := by decide +kernel
theorem dX5_endDay_23 : decode cX5_endDay 23 = .ok (.aload_n 1, 1) := by decide +kernel
theorem dX5_endDay_24 : decode cX5_endDay 24 = .ok (.getfield 46, 3) := by decide +kernel
theorem dX5_endDay_27 : decode cX5_endDay 27 = .ok (.iadd, 1) := by decide +kernel
theorem dX5_endDay_28 : decode cX5_endDay 28 = .ok (.putfield 33, 3) := by decide +kernel
theorem dX5_endDay_31 : decode cX5_endDay 31 = .ok (.aload_n 0, 1) := by decide +kernel
theorem dX5_endDay_32 : decode cX5_endDay 32 = .ok (.aload_n 0, 1) := by decide +kernel
theorem dX5_endDay_33 : decode cX5_endDay 33 = .ok (.getfield 27, 3) := by decide +kernel
theorem dX5_endDay_36 : decode cX5_endDay 36 = .ok (.aload_n 0, 1) := by decide +kernel
theorem dX5_endDay_37 : decode cX5_endDay 37 = .ok (.getfield 20, 3) := by decide +kernel
theorem dX5_endDay_40 : decode cX5_endDay 40 = .ok (.iadd, 1) := by decide +kernel
theorem dX5_endDay_41 : decode cX5_endDay 41 = .ok (.bipush 12, 2) := by decide +kernel
theorem dX5_endDay_43 : decode cX5_endDay 43 = .ok (.irem, 1) := by decide +kernel
theorem dX5_endDay_44 : decode cX5_endDay 44 = .ok (.putfield 27, 3) := by decide +kernel
theorem dX5_endDay_47 : decode cX5_endDay 47 = .ok (.iconst 0, 1) := by decide +kernel
theorem dX5_endDay_48 : decode cX5_endDay 48 = .ok (.istore_n 2, 1) := by decide +kernel
theorem dX5_endDay_49 : decode cX5_endDay 49 = .ok (.iload_n 2, 1) := by decide +kernel
theorem dX5_endDay_50 : decode cX5_endDay 50 = .ok (.iconst 3, 1) := by decide +kernel
theorem dX5_endDay_51 : decode cX5_endDay 51 = .ok (.if_icmp .ge 50, 3) := by decide +kernel
theorem dX5_endDay_54 : decode cX5_endDay 54 = .ok (.aload_n 1, 1) := by decide +kernel
theorem dX5_endDay_55 : decode cX5_endDay 55 = .ok (.getfield 47, 3) := by decide +kernel
theorem dX5_endDay_58 : decode cX5_endDay 58 = .ok (.iload_n 2, 1) := by decide +kernel
theorem dX5_endDay_59 : decode cX5_endDay 59 = .ok (.aaload, 1) := by decide +kernel
theorem dX5_endDay_60 : decode cX5_endDay 60 = .ok (.astore_n 3, 1) := by decide +kernel
theorem dX5_endDay_61 : decode cX5_endDay 61 = .ok (.aload_n 0, 1) := by decide +kernel
theorem dX5_endDay_62 : decode cX5_endDay 62 = .ok (.getfield 14, 3) := by decide +kernel
theorem dX5_endDay_65 : decode cX5_endDay 65 = .ok (.iload_n 2, 1) := by decide +kernel
theorem dX5_endDay_66 : decode cX5_endDay 66 = .ok (.aaload, 1) := by decide +kernel
theorem dX5_endDay_67 : decode cX5_endDay 67 = .ok (.aload_n 3, 1) := by decide +kernel
theorem dX5_endDay_68 : decode cX5_endDay 68 = .ok (.invokevirtual 51, 3) := by decide +kernel
theorem dX5_endDay_71 : decode cX5_endDay 71 = .ok (.aload_n 3, 1) := by decide +kernel
theorem dX5_endDay_72 : decode cX5_endDay 72 = .ok (.aload_n 0, 1) := by decide +kernel
theorem dX5_endDay_73 : decode cX5_endDay 73 = .ok (.getfield 24, 3) := by decide +kernel
theorem dX5_endDay_76 : decode cX5_endDay 76 = .ok (.invokevirtual 55, 3) := by decide +kernel
theorem dX5_endDay_79 : decode cX5_endDay 79 = .ok (.ifCond .eq 16, 3) := by decide +kernel
theorem dX5_endDay_82 : decode cX5_endDay 82 = .ok (.aload_n 0, 1) := by decide +kernel
theorem dX5_endDay_83 : decode cX5_endDay 83 = .ok (.getfield 14, 3) := by decide +kernel
theorem dX5_endDay_86 : decode cX5_endDay 86 = .ok (.iload_n 2, 1) := by decide +kernel
theorem dX5_endDay_87 : decode cX5_endDay 87 = .ok (.aaload, 1) := by decide +kernel
theorem dX5_endDay_88 : decode cX5_endDay 88 = .ok (.aload_n 0, 1) := by decide +kernel
theorem dX5_endDay_89 : decode cX5_endDay 89 = .ok (.getfield 27, 3) := by decide +kernel
theorem dX5_endDay_92 : decode cX5_endDay 92 = .ok (.invokevirtual 61, 3) := by decide +kernel
theorem dX5_endDay_95 : decode cX5_endDay 95 = .ok (.iinc 2 1, 3) := by decide +kernel
theorem dX5_endDay_98 : decode cX5_endDay 98 = .ok (.goto (-49), 3) := by decide +kernel
theorem dX5_endDay_101 : decode cX5_endDay 101 = .ok (.return_, 1) := by decide +kernel
theorem dX5_tellSetting_0 : decode cX5_tellSetting 0 = .ok (.iload_n 1, 1) := by decide +kernel
theorem dX5_tellSetting_1 : decode cX5_tellSetting 1 = .ok (.ifCond .ne 10, 3) := by decide +kernel
theorem dX5_tellSetting_4 : decode cX5_tellSetting 4 = .ok (.aload_n 0, 1) := by decide +kernel
theorem dX5_tellSetting_5 : decode cX5_tellSetting 5 = .ok (.getfield 20, 3) := by decide +kernel
theorem dX5_tellSetting_8 : decode cX5_tellSetting 8 = .ok (.goto 7, 3) := by decide +kernel
theorem dX5_tellSetting_11 : decode cX5_tellSetting 11 = .ok (.aload_n 0, 1) := by decide +kernel
theorem dX5_tellSetting_12 : decode cX5_tellSetting 12 = .ok (.getfield 24, 3) := by decide +kernel
theorem dX5_tellSetting_15 : decode cX5_tellSetting 15 = .ok (.ireturn, 1) := by decide +kernel
theorem dX5_changeSetting_0 : decode cX5_changeSetting 0 = .ok (.iload_n 1, 1) := by decide +kernel
theorem dX5_changeSetting_1 : decode cX5_changeSetting 1 = .ok (.ifCond .ne 11, 3) := by decide +kernel
theorem dX5_changeSetting_4 : decode cX5_changeSetting 4 = .ok (.aload_n 0, 1) := by decide +kernel
theorem dX5_changeSetting_5 : decode cX5_changeSetting 5 = .ok (.iload_n 2, 1) := by decide +kernel
theorem dX5_changeSetting_6 : decode cX5_changeSetting 6 = .ok (.putfield 20, 3) := by decide +kernel
theorem dX5_changeSetting_9 : decode cX5_changeSetting 9 = .ok (.goto 8, 3) := by decide +kernel
theorem dX5_changeSetting_12 : decode cX5_changeSetting 12 = .ok (.aload_n 0, 1) := by decide +kernel
theorem dX5_changeSetting_13 : decode cX5_changeSetting 13 = .ok (.iload_n 2, 1) := by decide +kernel
theorem dX5_changeSetting_14 : decode cX5_changeSetting 14 = .ok (.putfield 24, 3) := by decide +kernel
theorem dX5_changeSetting_17 : decode cX5_changeSetting 17 = .ok (.return_, 1) := by decide +kernel
theorem dX5_copyFrom_0 : decode cX5_copyFrom 0 = .ok (.iconst 0, 1) := by decide +kernel
theorem dX5_copyFrom_1 : decode cX5_copyFrom 1 = .ok (.istore_n 2, 1) := by decide +kernel
theorem dX5_copyFrom_2 : decode cX5_copyFrom 2 = .ok (.iload_n 2, 1) := by decide +kernel
theorem dX5_copyFrom_3 : decode cX5_copyFrom 3 = .ok (.iconst 3, 1) := by decide +kernel
theorem dX5_copyFrom_4 : decode cX5_copyFrom 4 = .ok (.if_icmp .ge 24, 3) := by decide +kernel
theorem dX5_copyFrom_7 : decode cX5_copyFrom 7 = .ok (.aload_n 0, 1) := by decide +kernel
theorem dX5_copyFrom_8 : decode cX5_copyFrom 8 = .ok (.getfield 14, 3) := by decide +kernel
theorem dX5_copyFrom_11 : decode cX5_copyFrom 11 = .ok (.iload_n 2, 1) := by decide +kernel
theorem dX5_copyFrom_12 : decode cX5_copyFrom 12 = .ok (.aaload, 1) := by decide +kernel
theorem dX5_copyFrom_13 : decode cX5_copyFrom 13 = .ok (.aload_n 1, 1) := by decide +kernel
theorem dX5_copyFrom_14 : decode cX5_copyFrom 14 = .ok (.getfield 14, 3) := by decide +kernel
theorem dX5_copyFrom_17 : decode cX5_copyFrom 17 = .ok (.iload_n 2, 1) := by decide +kernel
theorem dX5_copyFrom_18 : decode cX5_copyFrom 18 = .ok (.aaload, 1) := by decide +kernel
theorem dX5_copyFrom_19 : decode cX5_copyFrom 19 = .ok (.invokevirtual 64, 3) := by decide +kernel
theorem dX5_copyFrom_22 : decode cX5_copyFrom 22 = .ok (.iinc 2 1, 3) := by decide +kernel
theorem dX5_copyFrom_25 : decode cX5_copyFrom 25 = .ok (.goto (-23), 3) := by decide +kernel
theorem dX5_copyFrom_28 : decode cX5_copyFrom 28 = .ok (.aload_n 0, 1) := by decide +kernel
theorem dX5_copyFrom_29 : decode cX5_copyFrom 29 = .ok (.aload_n 1, 1) := by decide +kernel
theorem dX5_copyFrom_30 : decode cX5_copyFrom 30 = .ok (.getfield 20, 3) := by decide +kernel
theorem dX5_copyFrom_33 : decode cX5_copyFrom 33 = .ok (.putfield 20, 3) := by decide +kernel
theorem dX5_copyFrom_36 : decode cX5_copyFrom 36 = .ok (.aload_n 0, 1) := by decide +kernel
theorem dX5_copyFrom_37 : decode cX5_copyFrom 37 = .ok (.aload_n 1, 1) := by decide +kernel
theorem dX5_copyFrom_38 : decode cX5_copyFrom 38 = .ok (.getfield 24, 3) := by decide +kernel
theorem dX5_copyFrom_41 : decode cX5_copyFrom 41 = .ok (.putfield 24, 3) := by decide +kernel
theorem dX5_copyFrom_44 : decode cX5_copyFrom 44 = .ok (.aload_n 0, 1) := by decide +kernel
theorem dX5_copyFrom_45 : decode cX5_copyFrom 45 = .ok (.aload_n 1, 1) := by decide +kernel
theorem dX5_copyFrom_46 : decode cX5_copyFrom 46 = .ok (.getfield 27, 3) := by decide +kernel
theorem dX5_copyFrom_49 : decode cX5_copyFrom 49 = .ok (.putfield 27, 3) := by decide +kernel
theorem dX5_copyFrom_52 : decode cX5_copyFrom 52 = .ok (.aload_n 0, 1) := by decide +kernel
theorem dX5_copyFrom_53 : decode cX5_copyFrom 53 = .ok (.aload_n 1, 1) := by decide +kernel
theorem dX5_copyFrom_54 : decode cX5_copyFrom 54 = .ok (.getfield 30, 3) := by decide +kernel
theorem dX5_copyFrom_57 : decode cX5_copyFrom 57 = .ok (.putfield 30, 3) := by decide +kernel
theorem dX5_copyFrom_60 : decode cX5_copyFrom 60 = .ok (.aload_n 0, 1) := by decide +kernel
theorem dX5_copyFrom_61 : decode cX5_copyFrom 61 = .ok (.aload_n 1, 1) := by decide +kernel
theorem dX5_copyFrom_62 : decode cX5_copyFrom 62 = .ok (.getfield 33, 3) := by decide +kernel
theorem dX5_copyFrom_65 : decode cX5_copyFrom 65 = .ok (.putfield 33, 3) := by decide +kernel
theorem dX5_copyFrom_68 : decode cX5_copyFrom 68 = .ok (.aload_n 0, 1) := by decide +kernel
theorem dX5_copyFrom_69 : decode cX5_copyFrom 69 = .ok (.aload_n 1, 1) := by decide +kernel
theorem dX5_copyFrom_70 : decode cX5_copyFrom 70 = .ok (.getfield 36, 3) := by decide +kernel
theorem dX5_copyFrom_73 : decode cX5_copyFrom 73 = .ok (.putfield 36, 3) := by decide +kernel
theorem dX5_copyFrom_76 : decode cX5_copyFrom 76 = .ok (.return_, 1) := by decide +kernel
theorem dX6_init_0 : decode cX6_init 0 = .ok (.aload_n 0, 1) := by decide +kernel
theorem dX6_init_1 : decode cX6_init 1 = .ok (.invokespecial 3, 3) := by decide +kernel
theorem dX6_init_4 : decode cX6_init 4 = .ok (.aload_n 0, 1) := by decide +kernel
theorem dX6_init_5 : decode cX6_init 5 = .ok (.bipush 8, 2) := by decide +kernel
theorem dX6_init_7 : decode cX6_init 7 = .ok (.newarray .int, 2) := by decide +kernel
theorem dX6_init_9 : decode cX6_init 9 = .ok (.putfield 9, 3) := by decide +kernel
theorem dX6_init_12 : decode cX6_init 12 = .ok (.aload_n 0, 1) := by decide +kernel
theorem dX6_init_13 : decode cX6_init 13 = .ok (.iconst 0, 1) := by decide +kernel
theorem dX6_init_14 : decode cX6_init 14 = .ok (.putfield 15, 3) := by decide +kernel
theorem dX6_init_17 : decode cX6_init 17 = .ok (.aload_n 0, 1) := by decide +kernel
theorem dX6_init_18 : decode cX6_init 18 = .ok (.iconst 0, 1) := by decide +kernel
theorem dX6_init_19 : decode cX6_init 19 = .ok (.putfield 19, 3) := by decide +kernel
theorem dX6_init_22 : decode cX6_init 22 = .ok (.return_, 1) := by decide +kernel
theorem dX6_print_0 : decode cX6_print 0 = .ok (.aload_n 0, 1) := by decide +kernel
theorem dX6_print_1 : decode cX6_print 1 = .ok (.aload_n 1, 1) := by decide +kernel
theorem dX6_print_2 : decode cX6_print 2 = .ok (.getfield 22, 3) := by decide +kernel
theorem dX6_print_5 : decode cX6_print 5 = .ok (.putfield 19, 3) := by decide +kernel
theorem dX6_print_8 : decode cX6_print 8 = .ok (.aload_n 0, 1) := by decide +kernel
theorem dX6_print_9 : decode cX6_print 9 = .ok (.iconst 0, 1) := by decide +kernel
theorem dX6_print_10 : decode cX6_print 10 = .ok (.putfield 15, 3) := by decide +kernel
theorem dX6_print_13 : decode cX6_print 13 = .ok (.aload_n 1, 1) := by decide +kernel
theorem dX6_print_14 : decode cX6_print 14 = .ok (.getfield 25, 3) := by decide +kernel
theorem dX6_print_17 : decode cX6_print 17 = .ok (.istore_n 2, 1) := by decide +kernel
theorem dX6_print_18 : decode cX6_print 18 = .ok (.aload_n 1, 1) := by decide +kernel
theorem dX6_print_19 : decode cX6_print 19 = .ok (.getfield 25, 3) := by decide +kernel
theorem dX6_print_22 : decode cX6_print 22 = .ok (.istore_n 3, 1) := by decide +kernel
theorem dX6_print_23 : decode cX6_print 23 = .ok (.iload_n 3, 1) := by decide +kernel
theorem dX6_print_24 : decode cX6_print 24 = .ok (.bipush 21, 2) := by decide +kernel
theorem dX6_print_26 : decode cX6_print 26 = .ok (.if_icmp .gt 77, 3) := by decide +kernel
theorem dX6_print_29 : decode cX6_print 29 = .ok (.iload_n 3, 1) := by decide +kernel
theorem dX6_print_30 : decode cX6_print 30 = .ok (.iload_n 2, 1) := by decide +kernel
theorem dX6_print_31 : decode cX6_print 31 = .ok (.if_icmp .lt 22, 3) := by decide +kernel
theorem dX6_print_34 : decode cX6_print 34 = .ok (.aload_n 1, 1) := by decide +kernel
theorem dX6_print_35 : decode cX6_print 35 = .ok (.getfield 28, 3) := by decide +kernel
theorem dX6_print_38 : decode cX6_print 38 = .ok (.iload_n 3, 1) := by decide +kernel
theorem dX6_print_39 : decode cX6_print 39 = .ok (.invokestatic 31, 3) := by decide +kernel
theorem dX6_print_42 : decode cX6_print 42 = .ok (.aload_n 1, 1) := by decide +kernel
theorem dX6_print_43 : decode cX6_print 43 = .ok (.getfield 35, 3) := by decide +kernel
theorem dX6_print_46 : decode cX6_print 46 = .ok (.if_icmp .lt 7, 3) := by decide +kernel
theorem dX6_print_49 : decode cX6_print 49 = .ok (.iconst 1, 1) := by decide +kernel
theorem dX6_print_50 : decode cX6_print 50 = .ok (.goto 4, 3) := by decide +kernel
theorem dX6_print_53 : decode cX6_print 53 = .ok (.iconst 0, 1) := by decide +kernel
theorem dX6_print_54 : decode cX6_print 54 = .ok (.istore 4, 2) := by decide +kernel
theorem dX6_print_56 : decode cX6_print 56 = .ok (.iload 4, 2) := by decide +kernel
theorem dX6_print_58 : decode cX6_print 58 = .ok (.ifCond .eq 39, 3) := by decide +kernel
theorem dX6_print_61 : decode cX6_print 61 = .ok (.aload_n 0, 1) := by decide +kernel
theorem dX6_print_62 : decode cX6_print 62 = .ok (.getfield 15, 3) := by decide +kernel
theorem dX6_print_65 : decode cX6_print 65 = .ok (.aload_n 0, 1) := by decide +kernel
theorem dX6_print_66 : decode cX6_print 66 = .ok (.getfield 9, 3) := by decide +kernel
theorem dX6_print_69 : decode cX6_print 69 = .ok (.arraylength, 1) := by decide +kernel
theorem dX6_print_70 : decode cX6_print 70 = .ok (.if_icmp .ge 27, 3) := by decide +kernel
theorem dX6_print_73 : decode cX6_print 73 = .ok (.aload_n 0, 1) := by decide +kernel
theorem dX6_print_74 : decode cX6_print 74 = .ok (.getfield 9, 3) := by decide +kernel
theorem dX6_print_77 : decode cX6_print 77 = .ok (.aload_n 0, 1) := by decide +kernel
theorem dX6_print_78 : decode cX6_print 78 = .ok (.getfield 15, 3) := by decide +kernel
theorem dX6_print_81 : decode cX6_print 81 = .ok (.iload_n 3, 1) := by decide +kernel
theorem dX6_print_82 : decode cX6_print 82 = .ok (.iastore, 1) := by decide +kernel
theorem dX6_print_83 : decode cX6_print 83 = .ok (.aload_n 0, 1) := by decide +kernel
theorem dX6_print_84 : decode cX6_print 84 = .ok (.dup, 1) := by decide +kernel
theorem dX6_print_85 : decode cX6_print 85 = .ok (.getfield 15, 3) := by decide +kernel
theorem dX6_print_88 : decode cX6_print 88 = .ok (.iconst 1, 1) := by decide +kernel
theorem dX6_print_89 : decode cX6_print 89 = .ok (.iadd, 1) := by decide +kernel
theorem dX6_print_90 : decode cX6_print 90 = .ok (.putfield 15, 3) := by decide +kernel
theorem dX6_print_93 : decode cX6_print 93 = .ok (.iload_n 3, 1) := by decide +kernel
theorem dX6_print_94 : decode cX6_print 94 = .ok (.iconst 3, 1) := by decide +kernel
theorem dX6_print_95 : decode cX6_print 95 = .ok (.iadd, 1) := by decide +kernel
theorem dX6_print_96 : decode cX6_print 96 = .ok (.istore_n 2, 1) := by decide +kernel
theorem dX6_print_97 : decode cX6_print 97 = .ok (.iinc 3 1, 3) := by decide +kernel
theorem dX6_print_100 : decode cX6_print 100 = .ok (.goto (-77), 3) := by decide +kernel
theorem dX6_print_103 : decode cX6_print 103 = .ok (.return_, 1) := by decide +kernel
theorem dX6_has_0 : decode cX6_has 0 = .ok (.iload_n 1, 1) := by decide +kernel
theorem dX6_has_1 : decode cX6_has 1 = .ok (.ifCond .lt 24, 3) := by decide +kernel
theorem dX6_has_4 : decode cX6_has 4 = .ok (.iload_n 1, 1) := by decide +kernel
theorem dX6_has_5 : decode cX6_has 5 = .ok (.aload_n 0, 1) := by decide +kernel
theorem dX6_has_6 : decode cX6_has 6 = .ok (.getfield 15, 3) := by decide +kernel
theorem dX6_has_9 : decode cX6_has 9 = .ok (.if_icmp .ge 16, 3) := by decide +kernel
theorem dX6_has_12 : decode cX6_has 12 = .ok (.iload_n 1, 1) := by decide +kernel
theorem dX6_has_13 : decode cX6_has 13 = .ok (.aload_n 0, 1) := by decide +kernel
theorem dX6_has_14 : decode cX6_has 14 = .ok (.getfield 9, 3) := by decide +kernel
theorem dX6_has_17 : decode cX6_has 17 = .ok (.arraylength, 1) := by decide +kernel
theorem dX6_has_18 : decode cX6_has 18 = .ok (.if_icmp .ge 7, 3) := by decide +kernel
theorem dX6_has_21 : decode cX6_has 21 = .ok (.iconst 1, 1) := by decide +kernel
theorem dX6_has_22 : decode cX6_has 22 = .ok (.goto 4, 3) := by decide +kernel
theorem dX6_has_25 : decode cX6_has 25 = .ok (.iconst 0, 1) := by decide +kernel
theorem dX6_has_26 : decode cX6_has 26 = .ok (.ireturn, 1) := by decide +kernel
theorem dX6_hourOf_0 : decode cX6_hourOf 0 = .ok (.aload_n 0, 1) := by decide +kernel
theorem dX6_hourOf_1 : decode cX6_hourOf 1 = .ok (.iload_n 1, 1) := by decide +kernel
theorem dX6_hourOf_2 : decode cX6_hourOf 2 = .ok (.invokevirtual 38, 3) := by decide +kernel
theorem dX6_hourOf_5 : decode cX6_hourOf 5 = .ok (.ifCond .eq 12, 3) := by decide +kernel
theorem dX6_hourOf_8 : decode cX6_hourOf 8 = .ok (.aload_n 0, 1) := by decide +kernel
theorem dX6_hourOf_9 : decode cX6_hourOf 9 = .ok (.getfield 9, 3) := by decide +kernel
theorem dX6_hourOf_12 : decode cX6_hourOf 12 = .ok (.iload_n 1, 1) := by decide +kernel
theorem dX6_hourOf_13 : decode cX6_hourOf 13 = .ok (.iaload, 1) := by decide +kernel
theorem dX6_hourOf_14 : decode cX6_hourOf 14 = .ok (.goto 5, 3) := by decide +kernel
theorem dX6_hourOf_17 : decode cX6_hourOf 17 = .ok (.bipush (-5), 2) := by decide +kernel
theorem dX6_hourOf_19 : decode cX6_hourOf 19 = .ok (.ireturn, 1) := by decide +kernel
theorem dX6_pierOf_0 : decode cX6_pierOf 0 = .ok (.aload_n 0, 1) := by decide +kernel
theorem dX6_pierOf_1 : decode cX6_pierOf 1 = .ok (.getfield 19, 3) := by decide +kernel
theorem dX6_pierOf_4 : decode cX6_pierOf 4 = .ok (.iload_n 1, 1) := by decide +kernel
theorem dX6_pierOf_5 : decode cX6_pierOf 5 = .ok (.iadd, 1) := by decide +kernel
theorem dX6_pierOf_6 : decode cX6_pierOf 6 = .ok (.iconst 2, 1) := by decide +kernel
theorem dX6_pierOf_7 : decode cX6_pierOf 7 = .ok (.irem, 1) := by decide +kernel
theorem dX6_pierOf_8 : decode cX6_pierOf 8 = .ok (.ireturn, 1) := by decide +kernel
theorem dX7_init_0 : decode cX7_init 0 = .ok (.aload_n 0, 1) := by decide +kernel
theorem dX7_init_1 : decode cX7_init 1 = .ok (.invokespecial 3, 3) := by decide +kernel
theorem dX7_init_4 : decode cX7_init 4 = .ok (.aload_n 0, 1) := by decide +kernel
theorem dX7_init_5 : decode cX7_init 5 = .ok (.new 9, 3) := by decide +kernel
theorem dX7_init_8 : decode cX7_init 8 = .ok (.dup, 1) := by decide +kernel
theorem dX7_init_9 : decode cX7_init 9 = .ok (.invokespecial 11, 3) := by decide +kernel
theorem dX7_init_12 : decode cX7_init 12 = .ok (.putfield 12, 3) := by decide +kernel
theorem dX7_init_15 : decode cX7_init 15 = .ok (.aload_n 0, 1) := by decide +kernel
theorem dX7_init_16 : decode cX7_init 16 = .ok (.new 9, 3) := by decide +kernel
theorem dX7_init_19 : decode cX7_init 19 = .ok (.dup, 1) := by decide +kernel
theorem dX7_init_20 : decode cX7_init 20 = .ok (.invokespecial 11, 3) := by decide +kernel
theorem dX7_init_23 : decode cX7_init 23 = .ok (.putfield 16, 3) := by decide +kernel
theorem dX7_init_26 : decode cX7_init 26 = .ok (.aload_n 0, 1) := by decide +kernel
theorem dX7_init_27 : decode cX7_init 27 = .ok (.iconst 0, 1) := by decide +kernel
theorem dX7_init_28 : decode cX7_init 28 = .ok (.putfield 19, 3) := by decide +kernel
theorem dX7_init_31 : decode cX7_init 31 = .ok (.aload_n 0, 1) := by decide +kernel
theorem dX7_init_32 : decode cX7_init 32 = .ok (.iconst 4, 1) := by decide +kernel
theorem dX7_init_33 : decode cX7_init 33 = .ok (.anewarray 9, 3) := by decide +kernel
theorem dX7_init_36 : decode cX7_init 36 = .ok (.dup, 1) := by decide +kernel
theorem dX7_init_37 : decode cX7_init 37 = .ok (.iconst 0, 1) := by decide +kernel
theorem dX7_init_38 : decode cX7_init 38 = .ok (.new 9, 3) := by decide +kernel
theorem dX7_init_41 : decode cX7_init 41 = .ok (.dup, 1) := by decide +kernel
theorem dX7_init_42 : decode cX7_init 42 = .ok (.invokespecial 11, 3) := by decide +kernel
theorem dX7_init_45 : decode cX7_init 45 = .ok (.aastore, 1) := by decide +kernel
theorem dX7_init_46 : decode cX7_init 46 = .ok (.dup, 1) := by decide +kernel
theorem dX7_init_47 : decode cX7_init 47 = .ok (.iconst 1, 1) := by decide +kernel
theorem dX7_init_48 : decode cX7_init 48 = .ok (.new 9, 3) := by decide +kernel
theorem dX7_init_51 : decode cX7_init 51 = .ok (.dup, 1) := by decide +kernel
theorem dX7_init_52 : decode cX7_init 52 = .ok (.invokespecial 11, 3) := by decide +kernel
theorem dX7_init_55 : decode cX7_init 55 = .ok (.aastore, 1) := by decide +kernel
theorem dX7_init_56 : decode cX7_init 56 = .ok (.dup, 1) := by decide +kernel
theorem dX7_init_57 : decode cX7_init 57 = .ok (.iconst 2, 1) := by decide +kernel
theorem dX7_init_58 : decode cX7_init 58 = .ok (.new 9, 3) := by decide +kernel
theorem dX7_init_61 : decode cX7_init 61 = .ok (.dup, 1) := by decide +kernel
theorem dX7_init_62 : decode cX7_init 62 = .ok (.invokespecial 11, 3) := by decide +kernel
theorem dX7_init_65 : decode cX7_init 65 = .ok (.aastore, 1) := by decide +kernel
theorem dX7_init_66 : decode cX7_init 66 = .ok (.dup, 1) := by decide +kernel
theorem dX7_init_67 : decode cX7_init 67 = .ok (.iconst 3, 1) := by decide +kernel
theorem dX7_init_68 : decode cX7_init 68 = .ok (.new 9, 3) := by decide +kernel
theorem dX7_init_71 : decode cX7_init 71 = .ok (.dup, 1) := by decide +kernel
theorem dX7_init_72 : decode cX7_init 72 = .ok (.invokespecial 11, 3) := by decide +kernel
theorem dX7_init_75 : decode cX7_init 75 = .ok (.aastore, 1) := by decide +kernel
theorem dX7_init_76 : decode cX7_init 76 = .ok (.putfield 23, 3) := by decide +kernel
theorem dX7_init_79 : decode cX7_init 79 = .ok (.aload_n 0, 1) := by decide +kernel
theorem dX7_init_80 : decode cX7_init 80 = .ok (.iconst 0, 1) := by decide +kernel
theorem dX7_init_81 : decode cX7_init 81 = .ok (.putfield 27, 3) := by decide +kernel
theorem dX7_init_84 : decode cX7_init 84 = .ok (.aload_n 0, 1) := by decide +kernel
theorem dX7_init_85 : decode cX7_init 85 = .ok (.new 31, 3) := by decide +kernel
theorem dX7_init_88 : decode cX7_init 88 = .ok (.dup, 1) := by decide +kernel
theorem dX7_init_89 : decode cX7_init 89 = .ok (.invokespecial 33, 3) := by decide +kernel
theorem dX7_init_92 : decode cX7_init 92 = .ok (.putfield 34, 3) := by decide +kernel
theorem dX7_init_95 : decode cX7_init 95 = .ok (.aload_n 0, 1) := by decide +kernel
theorem dX7_init_96 : decode cX7_init 96 = .ok (.new 9, 3) := by decide +kernel
theorem dX7_init_99 : decode cX7_init 99 = .ok (.dup, 1) := by decide +kernel
theorem dX7_init_100 : decode cX7_init 100 = .ok (.invokespecial 11, 3) := by decide +kernel
theorem dX7_init_103 : decode cX7_init 103 = .ok (.putfield 38, 3) := by decide +kernel
theorem dX7_init_106 : decode cX7_init 106 = .ok (.aload_n 0, 1) := by decide +kernel
theorem dX7_init_107 : decode cX7_init 107 = .ok (.new 41, 3) := by decide +kernel
theorem dX7_init_110 : decode cX7_init 110 = .ok (.dup, 1) := by decide +kernel
theorem dX7_init_111 : decode cX7_init 111 = .ok (.invokespecial 43, 3) := by decide +kernel
theorem dX7_init_114 : decode cX7_init 114 = .ok (.putfield 44, 3) := by decide +kernel
theorem dX7_init_117 : decode cX7_init 117 = .ok (.aload_n 0, 1) := by decide +kernel
theorem dX7_init_118 : decode cX7_init 118 = .ok (.new 48, 3) := by decide +kernel
theorem dX7_init_121 : decode cX7_init 121 = .ok (.dup, 1) := by decide +kernel
theorem dX7_init_122 : decode cX7_init 122 = .ok (.invokespecial 50, 3) := by decide +kernel
theorem dX7_init_125 : decode cX7_init 125 = .ok (.putfield 51, 3) := by decide +kernel
theorem dX7_init_128 : decode cX7_init 128 = .ok (.return_, 1) := by decide +kernel
theorem dX7_captain_0 : decode cX7_captain 0 = .ok (.iload_n 1, 1) := by decide +kernel
theorem dX7_captain_1 : decode cX7_captain 1 = .ok (.invokestatic 55, 3) := by decide +kernel
theorem dX7_captain_4 : decode cX7_captain 4 = .ok (.ifCond .ne 5, 3) := by decide +kernel
theorem dX7_captain_7 : decode cX7_captain 7 = .ok (.iconst (-1), 1) := by decide +kernel
theorem dX7_captain_8 : decode cX7_captain 8 = .ok (.ireturn, 1) := by decide +kernel
theorem dX7_captain_9 : decode cX7_captain 9 = .ok (.iload_n 2, 1) := by decide +kernel
theorem dX7_captain_10 : decode cX7_captain 10 = .ok (.iload_n 3, 1) := by decide +kernel
theorem dX7_captain_11 : decode cX7_captain 11 = .ok (.invokestatic 59, 3) := by decide +kernel
theorem dX7_captain_14 : decode cX7_captain 14 = .ok (.ifCond .ne 6, 3) := by decide +kernel
theorem dX7_captain_17 : decode cX7_captain 17 = .ok (.bipush (-2), 2) := by decide +kernel
theorem dX7_captain_19 : decode cX7_captain 19 = .ok (.ireturn, 1) := by decide +kernel
theorem dX7_captain_20 : decode cX7_captain 20 = .ok (.aload_n 0, 1) := by decide +kernel
theorem dX7_captain_21 : decode cX7_captain 21 = .ok (.getfield 12, 3) := by decide +kernel
theorem dX7_captain_24 : decode cX7_captain 24 = .ok (.getfield 63, 3) := by decide +kernel
theorem dX7_captain_27 : decode cX7_captain 27 = .ok (.iload_n 1, 1) := by decide +kernel
theorem dX7_captain_28 : decode cX7_captain 28 = .ok (.aaload, 1) := by decide +kernel
theorem dX7_captain_29 : decode cX7_captain 29 = .ok (.iload_n 2, 1) := by decide +kernel
theorem dX7_captain_30 : decode cX7_captain 30 = .ok (.invokevirtual 67, 3) := by decide +kernel
theorem dX7_captain_33 : decode cX7_captain 33 = .ok (.istore 4, 2) := by decide +kernel
theorem dX7_captain_35 : decode cX7_captain 35 = .ok (.iload 4, 2) := by decide +kernel
theorem dX7_captain_37 : decode cX7_captain 37 = .ok (.iload_n 3, 1) := by decide +kernel
theorem dX7_captain_38 : decode cX7_captain 38 = .ok (.if_icmp .ne 6, 3) := by decide +kernel
theorem dX7_captain_41 : decode cX7_captain 41 = .ok (.bipush (-5), 2) := by decide +kernel
theorem dX7_captain_43 : decode cX7_captain 43 = .ok (.ireturn, 1) := by decide +kernel
theorem dX7_captain_44 : decode cX7_captain 44 = .ok (.aload_n 0, 1) := by decide +kernel
theorem dX7_captain_45 : decode cX7_captain 45 = .ok (.invokevirtual 73, 3) := by decide +kernel
theorem dX7_captain_48 : decode cX7_captain 48 = .ok (.aload_n 0, 1) := by decide +kernel
theorem dX7_captain_49 : decode cX7_captain 49 = .ok (.getfield 12, 3) := by decide +kernel
theorem dX7_captain_52 : decode cX7_captain 52 = .ok (.getfield 63, 3) := by decide +kernel
theorem dX7_captain_55 : decode cX7_captain 55 = .ok (.iload_n 1, 1) := by decide +kernel
theorem dX7_captain_56 : decode cX7_captain 56 = .ok (.aaload, 1) := by decide +kernel
theorem dX7_captain_57 : decode cX7_captain 57 = .ok (.iload_n 2, 1) := by decide +kernel
theorem dX7_captain_58 : decode cX7_captain 58 = .ok (.iload_n 3, 1) := by decide +kernel
theorem dX7_captain_59 : decode cX7_captain 59 = .ok (.invokevirtual 76, 3) := by decide +kernel
theorem dX7_captain_62 : decode cX7_captain 62 = .ok (.iload 4, 2) := by decide +kernel
theorem dX7_captain_64 : decode cX7_captain 64 = .ok (.ireturn, 1) := by decide +kernel
theorem dX7_truth_0 : decode cX7_truth 0 = .ok (.iload_n 1, 1) := by decide +kernel
theorem dX7_truth_1 : decode cX7_truth 1 = .ok (.ifCond .lt 9, 3) := by decide +kernel
theorem dX7_truth_4 : decode cX7_truth 4 = .ok (.iload_n 1, 1) := by decide +kernel
theorem dX7_truth_5 : decode cX7_truth 5 = .ok (.bipush 12, 2) := by decide +kernel
theorem dX7_truth_7 : decode cX7_truth 7 = .ok (.if_icmp .lt 6, 3) := by decide +kernel
theorem dX7_truth_10 : decode cX7_truth 10 = .ok (.bipush (-2), 2) := by decide +kernel
theorem dX7_truth_12 : decode cX7_truth 12 = .ok (.ireturn, 1) := by decide +kernel
theorem dX7_truth_13 : decode cX7_truth 13 = .ok (.aload_n 0, 1) := by decide +kernel
theorem dX7_truth_14 : decode cX7_truth 14 = .ok (.getfield 12, 3) := by decide +kernel
theorem dX7_truth_17 : decode cX7_truth 17 = .ok (.getfield 91, 3) := by decide +kernel
theorem dX7_truth_20 : decode cX7_truth 20 = .ok (.istore_n 2, 1) := by decide +kernel
theorem dX7_truth_21 : decode cX7_truth 21 = .ok (.iload_n 2, 1) := by decide +kernel
theorem dX7_truth_22 : decode cX7_truth 22 = .ok (.iload_n 1, 1) := by decide +kernel
theorem dX7_truth_23 : decode cX7_truth 23 = .ok (.if_icmp .ne 6, 3) := by decide +kernel
theorem dX7_truth_26 : decode cX7_truth 26 = .ok (.bipush (-5), 2) := by decide +kernel
theorem dX7_truth_28 : decode cX7_truth 28 = .ok (.ireturn, 1) := by decide +kernel
theorem dX7_truth_29 : decode cX7_truth 29 = .ok (.aload_n 0, 1) := by decide +kernel
theorem dX7_truth_30 : decode cX7_truth 30 = .ok (.invokevirtual 73, 3) := by decide +kernel
theorem dX7_truth_33 : decode cX7_truth 33 = .ok (.aload_n 0, 1) := by decide +kernel
theorem dX7_truth_34 : decode cX7_truth 34 = .ok (.getfield 12, 3) := by decide +kernel
theorem dX7_truth_37 : decode cX7_truth 37 = .ok (.iload_n 1, 1) := by decide +kernel
theorem dX7_truth_38 : decode cX7_truth 38 = .ok (.putfield 91, 3) := by decide +kernel
theorem dX7_truth_41 : decode cX7_truth 41 = .ok (.iload_n 2, 1) := by decide +kernel
theorem dX7_truth_42 : decode cX7_truth 42 = .ok (.ireturn, 1) := by decide +kernel
theorem dX7_set_0 : decode cX7_set 0 = .ok (.iload_n 1, 1) := by decide +kernel
theorem dX7_set_1 : decode cX7_set 1 = .ok (.iload_n 2, 1) := by decide +kernel
theorem dX7_set_2 : decode cX7_set 2 = .ok (.invokestatic 94, 3) := by decide +kernel
theorem dX7_set_5 : decode cX7_set 5 = .ok (.ifCond .ne 6, 3) := by decide +kernel
theorem dX7_set_8 : decode cX7_set 8 = .ok (.bipush (-2), 2) := by decide +kernel
theorem dX7_set_10 : decode cX7_set 10 = .ok (.ireturn, 1) := by decide +kernel
theorem dX7_set_11 : decode cX7_set 11 = .ok (.aload_n 0, 1) := by decide +kernel
theorem dX7_set_12 : decode cX7_set 12 = .ok (.getfield 12, 3) := by decide +kernel
theorem dX7_set_15 : decode cX7_set 15 = .ok (.iload_n 1, 1) := by decide +kernel
theorem dX7_set_16 : decode cX7_set 16 = .ok (.invokevirtual 97, 3) := by decide +kernel
theorem dX7_set_19 : decode cX7_set 19 = .ok (.istore_n 3, 1) := by decide +kernel
theorem dX7_set_20 : decode cX7_set 20 = .ok (.iload_n 3, 1) := by decide +kernel
theorem dX7_set_21 : decode cX7_set 21 = .ok (.iload_n 2, 1) := by decide +kernel
theorem dX7_set_22 : decode cX7_set 22 = .ok (.if_icmp .ne 6, 3) := by decide +kernel
theorem dX7_set_25 : decode cX7_set 25 = .ok (.bipush (-5), 2) := by decide +kernel
theorem dX7_set_27 : decode cX7_set 27 = .ok (.ireturn, 1) := by decide +kernel
theorem dX7_set_28 : decode cX7_set 28 = .ok (.aload_n 0, 1) := by decide +kernel
theorem dX7_set_29 : decode cX7_set 29 = .ok (.invokevirtual 73, 3) := by decide +kernel
theorem dX7_set_32 : decode cX7_set 32 = .ok (.aload_n 0, 1) := by decide +kernel
theorem dX7_set_33 : decode cX7_set 33 = .ok (.getfield 12, 3) := by decide +kernel
theorem dX7_set_36 : decode cX7_set 36 = .ok (.iload_n 1, 1) := by decide +kernel
theorem dX7_set_37 : decode cX7_set 37 = .ok (.iload_n 2, 1) := by decide +kernel
theorem dX7_set_38 : decode cX7_set 38 = .ok (.invokevirtual 100, 3) := by decide +kernel
theorem dX7_set_41 : decode cX7_set 41 = .ok (.iload_n 3, 1) := by decide +kernel
theorem dX7_set_42 : decode cX7_set 42 = .ok (.ireturn, 1) := by decide +kernel
theorem dX7_lot_0 : decode cX7_lot 0 = .ok (.iload_n 1, 1) := by decide +kernel
theorem dX7_lot_1 : decode cX7_lot 1 = .ok (.ifCond .lt 9, 3) := by decide +kernel
theorem dX7_lot_4 : decode cX7_lot 4 = .ok (.iload_n 1, 1) := by decide +kernel
theorem dX7_lot_5 : decode cX7_lot 5 = .ok (.ldc 103, 2) := by decide +kernel
theorem dX7_lot_7 : decode cX7_lot 7 = .ok (.if_icmp .lt 6, 3) := by decide +kernel
theorem dX7_lot_10 : decode cX7_lot 10 = .ok (.bipush (-2), 2) := by decide +kernel
theorem dX7_lot_12 : decode cX7_lot 12 = .ok (.ireturn, 1) := by decide +kernel
theorem dX7_lot_13 : decode cX7_lot 13 = .ok (.aload_n 0, 1) := by decide +kernel
theorem dX7_lot_14 : decode cX7_lot 14 = .ok (.getfield 12, 3) := by decide +kernel
theorem dX7_lot_17 : decode cX7_lot 17 = .ok (.getfield 104, 3) := by decide +kernel
theorem dX7_lot_20 : decode cX7_lot 20 = .ok (.istore_n 2, 1) := by decide +kernel
theorem dX7_lot_21 : decode cX7_lot 21 = .ok (.iload_n 2, 1) := by decide +kernel
theorem dX7_lot_22 : decode cX7_lot 22 = .ok (.iload_n 1, 1) := by decide +kernel
theorem dX7_lot_23 : decode cX7_lot 23 = .ok (.if_icmp .ne 6, 3) := by decide +kernel
theorem dX7_lot_26 : decode cX7_lot 26 = .ok (.bipush (-5), 2) := by decide +kernel
theorem dX7_lot_28 : decode cX7_lot 28 = .ok (.ireturn, 1) := by decide +kernel
theorem dX7_lot_29 : decode cX7_lot 29 = .ok (.aload_n 0, 1) := by decide +kernel
theorem dX7_lot_30 : decode cX7_lot 30 = .ok (.invokevirtual 73, 3) := by decide +kernel
theorem dX7_lot_33 : decode cX7_lot 33 = .ok (.aload_n 0, 1) := by decide +kernel
theorem dX7_lot_34 : decode cX7_lot 34 = .ok (.getfield 12, 3) := by decide +kernel
theorem dX7_lot_37 : decode cX7_lot 37 = .ok (.iload_n 1, 1) := by decide +kernel
theorem dX7_lot_38 : decode cX7_lot 38 = .ok (.putfield 104, 3) := by decide +kernel
theorem dX7_lot_41 : decode cX7_lot 41 = .ok (.iload_n 2, 1) := by decide +kernel
theorem dX7_lot_42 : decode cX7_lot 42 = .ok (.ireturn, 1) := by decide +kernel
theorem dX7_sail_0 : decode cX7_sail 0 = .ok (.iload_n 1, 1) := by decide +kernel
theorem dX7_sail_1 : decode cX7_sail 1 = .ok (.iconst 1, 1) := by decide +kernel
theorem dX7_sail_2 : decode cX7_sail 2 = .ok (.if_icmp .lt 9, 3) := by decide +kernel
theorem dX7_sail_5 : decode cX7_sail 5 = .ok (.iload_n 1, 1) := by decide +kernel
theorem dX7_sail_6 : decode cX7_sail 6 = .ok (.bipush 30, 2) := by decide +kernel
theorem dX7_sail_8 : decode cX7_sail 8 = .ok (.if_icmp .le 6, 3) := by decide +kernel
theorem dX7_sail_11 : decode cX7_sail 11 = .ok (.bipush (-2), 2) := by decide +kernel
theorem dX7_sail_13 : decode cX7_sail 13 = .ok (.ireturn, 1) := by decide +kernel
theorem dX7_sail_14 : decode cX7_sail 14 = .ok (.aload_n 0, 1) := by decide +kernel
theorem dX7_sail_15 : decode cX7_sail 15 = .ok (.getfield 12, 3) := by decide +kernel
