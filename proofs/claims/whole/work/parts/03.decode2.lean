theorem dX8_init_103 : decode cX8_init 103 = .ok (.getfield 7, 3) := by decide +kernel
theorem dX8_init_106 : decode cX8_init 106 = .ok (.iconst 4, 1) := by decide +kernel
theorem dX8_init_107 : decode cX8_init 107 = .ok (.iconst 3, 1) := by decide +kernel
theorem dX8_init_108 : decode cX8_init 108 = .ok (.iastore, 1) := by decide +kernel
theorem dX8_init_109 : decode cX8_init 109 = .ok (.iconst 0, 1) := by decide +kernel
theorem dX8_init_110 : decode cX8_init 110 = .ok (.istore_n 1, 1) := by decide +kernel
theorem dX8_init_111 : decode cX8_init 111 = .ok (.iload_n 1, 1) := by decide +kernel
theorem dX8_init_112 : decode cX8_init 112 = .ok (.iconst 3, 1) := by decide +kernel
theorem dX8_init_113 : decode cX8_init 113 = .ok (.if_icmp .ge 42, 3) := by decide +kernel
theorem dX8_init_116 : decode cX8_init 116 = .ok (.aload_n 0, 1) := by decide +kernel
theorem dX8_init_117 : decode cX8_init 117 = .ok (.iload_n 1, 1) := by decide +kernel
theorem dX8_init_118 : decode cX8_init 118 = .ok (.iconst 0, 1) := by decide +kernel
theorem dX8_init_119 : decode cX8_init 119 = .ok (.iconst 4, 1) := by decide +kernel
theorem dX8_init_120 : decode cX8_init 120 = .ok (.iload_n 1, 1) := by decide +kernel
theorem dX8_init_121 : decode cX8_init 121 = .ok (.imul, 1) := by decide +kernel
theorem dX8_init_122 : decode cX8_init 122 = .ok (.invokevirtual 43, 3) := by decide +kernel
theorem dX8_init_125 : decode cX8_init 125 = .ok (.aload_n 0, 1) := by decide +kernel
theorem dX8_init_126 : decode cX8_init 126 = .ok (.iload_n 1, 1) := by decide +kernel
theorem dX8_init_127 : decode cX8_init 127 = .ok (.iconst 1, 1) := by decide +kernel
theorem dX8_init_128 : decode cX8_init 128 = .ok (.iconst 2, 1) := by decide +kernel
theorem dX8_init_129 : decode cX8_init 129 = .ok (.invokevirtual 43, 3) := by decide +kernel
theorem dX8_init_132 : decode cX8_init 132 = .ok (.aload_n 0, 1) := by decide +kernel
theorem dX8_init_133 : decode cX8_init 133 = .ok (.iload_n 1, 1) := by decide +kernel
theorem dX8_init_134 : decode cX8_init 134 = .ok (.iconst 2, 1) := by decide +kernel
theorem dX8_init_135 : decode cX8_init 135 = .ok (.bipush 6, 2) := by decide +kernel
theorem dX8_init_137 : decode cX8_init 137 = .ok (.invokevirtual 43, 3) := by decide +kernel
theorem dX8_init_140 : decode cX8_init 140 = .ok (.aload_n 0, 1) := by decide +kernel
theorem dX8_init_141 : decode cX8_init 141 = .ok (.iload_n 1, 1) := by decide +kernel
theorem dX8_init_142 : decode cX8_init 142 = .ok (.iconst 3, 1) := by decide +kernel
theorem dX8_init_143 : decode cX8_init 143 = .ok (.iload_n 1, 1) := by decide +kernel
theorem dX8_init_144 : decode cX8_init 144 = .ok (.iconst 2, 1) := by decide +kernel
theorem dX8_init_145 : decode cX8_init 145 = .ok (.irem, 1) := by decide +kernel
theorem dX8_init_146 : decode cX8_init 146 = .ok (.invokevirtual 43, 3) := by decide +kernel
theorem dX8_init_149 : decode cX8_init 149 = .ok (.iinc 1 1, 3) := by decide +kernel
theorem dX8_init_152 : decode cX8_init 152 = .ok (.goto (-41), 3) := by decide +kernel
theorem dX8_init_155 : decode cX8_init 155 = .ok (.return_, 1) := by decide +kernel
theorem dX8_in_0 : decode cX8_in 0 = .ok (.iload_n 0, 1) := by decide +kernel
theorem dX8_in_1 : decode cX8_in 1 = .ok (.iload_n 1, 1) := by decide +kernel
theorem dX8_in_2 : decode cX8_in 2 = .ok (.if_icmp .lt 12, 3) := by decide +kernel
theorem dX8_in_5 : decode cX8_in 5 = .ok (.iload_n 0, 1) := by decide +kernel
theorem dX8_in_6 : decode cX8_in 6 = .ok (.iload_n 2, 1) := by decide +kernel
theorem dX8_in_7 : decode cX8_in 7 = .ok (.if_icmp .gt 7, 3) := by decide +kernel
theorem dX8_in_10 : decode cX8_in 10 = .ok (.iconst 1, 1) := by decide +kernel
theorem dX8_in_11 : decode cX8_in 11 = .ok (.goto 4, 3) := by decide +kernel
theorem dX8_in_14 : decode cX8_in 14 = .ok (.iconst 0, 1) := by decide +kernel
theorem dX8_in_15 : decode cX8_in 15 = .ok (.ireturn, 1) := by decide +kernel
theorem dX8_record_0 : decode cX8_record 0 = .ok (.aload_n 0, 1) := by decide +kernel
theorem dX8_record_1 : decode cX8_record 1 = .ok (.getfield 47, 3) := by decide +kernel
theorem dX8_record_4 : decode cX8_record 4 = .ok (.iconst 4, 1) := by decide +kernel
theorem dX8_record_5 : decode cX8_record 5 = .ok (.if_icmp .ne 42, 3) := by decide +kernel
theorem dX8_record_8 : decode cX8_record 8 = .ok (.iconst 0, 1) := by decide +kernel
theorem dX8_record_9 : decode cX8_record 9 = .ok (.istore_n 1, 1) := by decide +kernel
theorem dX8_record_10 : decode cX8_record 10 = .ok (.iload_n 1, 1) := by decide +kernel
theorem dX8_record_11 : decode cX8_record 11 = .ok (.bipush 108, 2) := by decide +kernel
theorem dX8_record_13 : decode cX8_record 13 = .ok (.if_icmp .ge 24, 3) := by decide +kernel
theorem dX8_record_16 : decode cX8_record 16 = .ok (.aload_n 0, 1) := by decide +kernel
theorem dX8_record_17 : decode cX8_record 17 = .ok (.getfield 19, 3) := by decide +kernel
theorem dX8_record_20 : decode cX8_record 20 = .ok (.iload_n 1, 1) := by decide +kernel
theorem dX8_record_21 : decode cX8_record 21 = .ok (.aload_n 0, 1) := by decide +kernel
theorem dX8_record_22 : decode cX8_record 22 = .ok (.getfield 19, 3) := by decide +kernel
theorem dX8_record_25 : decode cX8_record 25 = .ok (.iload_n 1, 1) := by decide +kernel
theorem dX8_record_26 : decode cX8_record 26 = .ok (.bipush 36, 2) := by decide +kernel
theorem dX8_record_28 : decode cX8_record 28 = .ok (.iadd, 1) := by decide +kernel
theorem dX8_record_29 : decode cX8_record 29 = .ok (.iaload, 1) := by decide +kernel
theorem dX8_record_30 : decode cX8_record 30 = .ok (.iastore, 1) := by decide +kernel
theorem dX8_record_31 : decode cX8_record 31 = .ok (.iinc 1 1, 3) := by decide +kernel
theorem dX8_record_34 : decode cX8_record 34 = .ok (.goto (-24), 3) := by decide +kernel
theorem dX8_record_37 : decode cX8_record 37 = .ok (.aload_n 0, 1) := by decide +kernel
theorem dX8_record_38 : decode cX8_record 38 = .ok (.dup, 1) := by decide +kernel
theorem dX8_record_39 : decode cX8_record 39 = .ok (.getfield 47, 3) := by decide +kernel
theorem dX8_record_42 : decode cX8_record 42 = .ok (.iconst 1, 1) := by decide +kernel
theorem dX8_record_43 : decode cX8_record 43 = .ok (.isub, 1) := by decide +kernel
theorem dX8_record_44 : decode cX8_record 44 = .ok (.putfield 47, 3) := by decide +kernel
theorem dX8_record_47 : decode cX8_record 47 = .ok (.iconst 0, 1) := by decide +kernel
theorem dX8_record_48 : decode cX8_record 48 = .ok (.istore_n 1, 1) := by decide +kernel
theorem dX8_record_49 : decode cX8_record 49 = .ok (.iload_n 1, 1) := by decide +kernel
theorem dX8_record_50 : decode cX8_record 50 = .ok (.bipush 36, 2) := by decide +kernel
theorem dX8_record_52 : decode cX8_record 52 = .ok (.if_icmp .ge 29, 3) := by decide +kernel
theorem dX8_record_55 : decode cX8_record 55 = .ok (.aload_n 0, 1) := by decide +kernel
theorem dX8_record_56 : decode cX8_record 56 = .ok (.getfield 19, 3) := by decide +kernel
theorem dX8_record_59 : decode cX8_record 59 = .ok (.bipush 36, 2) := by decide +kernel
theorem dX8_record_61 : decode cX8_record 61 = .ok (.aload_n 0, 1) := by decide +kernel
theorem dX8_record_62 : decode cX8_record 62 = .ok (.getfield 47, 3) := by decide +kernel
theorem dX8_record_65 : decode cX8_record 65 = .ok (.imul, 1) := by decide +kernel
theorem dX8_record_66 : decode cX8_record 66 = .ok (.iload_n 1, 1) := by decide +kernel
theorem dX8_record_67 : decode cX8_record 67 = .ok (.iadd, 1) := by decide +kernel
theorem dX8_record_68 : decode cX8_record 68 = .ok (.aload_n 0, 1) := by decide +kernel
theorem dX8_record_69 : decode cX8_record 69 = .ok (.getfield 7, 3) := by decide +kernel
theorem dX8_record_72 : decode cX8_record 72 = .ok (.iload_n 1, 1) := by decide +kernel
theorem dX8_record_73 : decode cX8_record 73 = .ok (.iaload, 1) := by decide +kernel
theorem dX8_record_74 : decode cX8_record 74 = .ok (.iastore, 1) := by decide +kernel
theorem dX8_record_75 : decode cX8_record 75 = .ok (.iinc 1 1, 3) := by decide +kernel
theorem dX8_record_78 : decode cX8_record 78 = .ok (.goto (-29), 3) := by decide +kernel
theorem dX8_record_81 : decode cX8_record 81 = .ok (.aload_n 0, 1) := by decide +kernel
theorem dX8_record_82 : decode cX8_record 82 = .ok (.dup, 1) := by decide +kernel
theorem dX8_record_83 : decode cX8_record 83 = .ok (.getfield 47, 3) := by decide +kernel
theorem dX8_record_86 : decode cX8_record 86 = .ok (.iconst 1, 1) := by decide +kernel
theorem dX8_record_87 : decode cX8_record 87 = .ok (.iadd, 1) := by decide +kernel
theorem dX8_record_88 : decode cX8_record 88 = .ok (.putfield 47, 3) := by decide +kernel
theorem dX8_record_91 : decode cX8_record 91 = .ok (.return_, 1) := by decide +kernel
theorem dX8_lay_0 : decode cX8_lay 0 = .ok (.iconst 0, 1) := by decide +kernel
theorem dX8_lay_1 : decode cX8_lay 1 = .ok (.istore_n 1, 1) := by decide +kernel
theorem dX8_lay_2 : decode cX8_lay 2 = .ok (.iload_n 1, 1) := by decide +kernel
theorem dX8_lay_3 : decode cX8_lay 3 = .ok (.bipush 36, 2) := by decide +kernel
theorem dX8_lay_5 : decode cX8_lay 5 = .ok (.if_icmp .ge 21, 3) := by decide +kernel
theorem dX8_lay_8 : decode cX8_lay 8 = .ok (.aload_n 0, 1) := by decide +kernel
theorem dX8_lay_9 : decode cX8_lay 9 = .ok (.getfield 16, 3) := by decide +kernel
theorem dX8_lay_12 : decode cX8_lay 12 = .ok (.iload_n 1, 1) := by decide +kernel
theorem dX8_lay_13 : decode cX8_lay 13 = .ok (.aload_n 0, 1) := by decide +kernel
theorem dX8_lay_14 : decode cX8_lay 14 = .ok (.getfield 7, 3) := by decide +kernel
theorem dX8_lay_17 : decode cX8_lay 17 = .ok (.iload_n 1, 1) := by decide +kernel
theorem dX8_lay_18 : decode cX8_lay 18 = .ok (.iaload, 1) := by decide +kernel
theorem dX8_lay_19 : decode cX8_lay 19 = .ok (.iastore, 1) := by decide +kernel
theorem dX8_lay_20 : decode cX8_lay 20 = .ok (.iinc 1 1, 3) := by decide +kernel
theorem dX8_lay_23 : decode cX8_lay 23 = .ok (.goto (-21), 3) := by decide +kernel
theorem dX8_lay_26 : decode cX8_lay 26 = .ok (.return_, 1) := by decide +kernel
theorem dX8_takeBack_0 : decode cX8_takeBack 0 = .ok (.iconst 0, 1) := by decide +kernel
theorem dX8_takeBack_1 : decode cX8_takeBack 1 = .ok (.istore_n 1, 1) := by decide +kernel
theorem dX8_takeBack_2 : decode cX8_takeBack 2 = .ok (.iload_n 1, 1) := by decide +kernel
theorem dX8_takeBack_3 : decode cX8_takeBack 3 = .ok (.bipush 36, 2) := by decide +kernel
theorem dX8_takeBack_5 : decode cX8_takeBack 5 = .ok (.if_icmp .ge 21, 3) := by decide +kernel
theorem dX8_takeBack_8 : decode cX8_takeBack 8 = .ok (.aload_n 0, 1) := by decide +kernel
theorem dX8_takeBack_9 : decode cX8_takeBack 9 = .ok (.getfield 7, 3) := by decide +kernel
theorem dX8_takeBack_12 : decode cX8_takeBack 12 = .ok (.iload_n 1, 1) := by decide +kernel
theorem dX8_takeBack_13 : decode cX8_takeBack 13 = .ok (.aload_n 0, 1) := by decide +kernel
theorem dX8_takeBack_14 : decode cX8_takeBack 14 = .ok (.getfield 16, 3) := by decide +kernel
theorem dX8_takeBack_17 : decode cX8_takeBack 17 = .ok (.iload_n 1, 1) := by decide +kernel
theorem dX8_takeBack_18 : decode cX8_takeBack 18 = .ok (.iaload, 1) := by decide +kernel
theorem dX8_takeBack_19 : decode cX8_takeBack 19 = .ok (.iastore, 1) := by decide +kernel
theorem dX8_takeBack_20 : decode cX8_takeBack 20 = .ok (.iinc 1 1, 3) := by decide +kernel
theorem dX8_takeBack_23 : decode cX8_takeBack 23 = .ok (.goto (-21), 3) := by decide +kernel
theorem dX8_takeBack_26 : decode cX8_takeBack 26 = .ok (.return_, 1) := by decide +kernel
theorem dX8_isCaptain_0 : decode cX8_isCaptain 0 = .ok (.iload_n 0, 1) := by decide +kernel
theorem dX8_isCaptain_1 : decode cX8_isCaptain 1 = .ok (.iconst 0, 1) := by decide +kernel
theorem dX8_isCaptain_2 : decode cX8_isCaptain 2 = .ok (.iconst 2, 1) := by decide +kernel
theorem dX8_isCaptain_3 : decode cX8_isCaptain 3 = .ok (.invokestatic 51, 3) := by decide +kernel
theorem dX8_isCaptain_6 : decode cX8_isCaptain 6 = .ok (.ireturn, 1) := by decide +kernel
theorem dX8_of_0 : decode cX8_of 0 = .ok (.aload_n 0, 1) := by decide +kernel
theorem dX8_of_1 : decode cX8_of 1 = .ok (.getfield 7, 3) := by decide +kernel
theorem dX8_of_4 : decode cX8_of 4 = .ok (.bipush 6, 2) := by decide +kernel
theorem dX8_of_6 : decode cX8_of 6 = .ok (.bipush 10, 2) := by decide +kernel
theorem dX8_of_8 : decode cX8_of 8 = .ok (.iload_n 1, 1) := by decide +kernel
theorem dX8_of_9 : decode cX8_of 9 = .ok (.imul, 1) := by decide +kernel
theorem dX8_of_10 : decode cX8_of 10 = .ok (.iadd, 1) := by decide +kernel
theorem dX8_of_11 : decode cX8_of 11 = .ok (.iload_n 2, 1) := by decide +kernel
theorem dX8_of_12 : decode cX8_of 12 = .ok (.iadd, 1) := by decide +kernel
theorem dX8_of_13 : decode cX8_of 13 = .ok (.iaload, 1) := by decide +kernel
theorem dX8_of_14 : decode cX8_of 14 = .ok (.ireturn, 1) := by decide +kernel
theorem dX8_put_0 : decode cX8_put 0 = .ok (.aload_n 0, 1) := by decide +kernel
theorem dX8_put_1 : decode cX8_put 1 = .ok (.getfield 7, 3) := by decide +kernel
theorem dX8_put_4 : decode cX8_put 4 = .ok (.bipush 6, 2) := by decide +kernel
theorem dX8_put_6 : decode cX8_put 6 = .ok (.bipush 10, 2) := by decide +kernel
theorem dX8_put_8 : decode cX8_put 8 = .ok (.iload_n 1, 1) := by decide +kernel
theorem dX8_put_9 : decode cX8_put 9 = .ok (.imul, 1) := by decide +kernel
theorem dX8_put_10 : decode cX8_put 10 = .ok (.iadd, 1) := by decide +kernel
theorem dX8_put_11 : decode cX8_put 11 = .ok (.iload_n 2, 1) := by decide +kernel
theorem dX8_put_12 : decode cX8_put 12 = .ok (.iadd, 1) := by decide +kernel
theorem dX8_put_13 : decode cX8_put 13 = .ok (.iload_n 3, 1) := by decide +kernel
theorem dX8_put_14 : decode cX8_put 14 = .ok (.iastore, 1) := by decide +kernel
theorem dX8_put_15 : decode cX8_put 15 = .ok (.return_, 1) := by decide +kernel
theorem dX8_more_0 : decode cX8_more 0 = .ok (.aload_n 0, 1) := by decide +kernel
theorem dX8_more_1 : decode cX8_more 1 = .ok (.iload_n 1, 1) := by decide +kernel
theorem dX8_more_2 : decode cX8_more 2 = .ok (.iload_n 2, 1) := by decide +kernel
theorem dX8_more_3 : decode cX8_more 3 = .ok (.aload_n 0, 1) := by decide +kernel
theorem dX8_more_4 : decode cX8_more 4 = .ok (.iload_n 1, 1) := by decide +kernel
theorem dX8_more_5 : decode cX8_more 5 = .ok (.iload_n 2, 1) := by decide +kernel
theorem dX8_more_6 : decode cX8_more 6 = .ok (.invokevirtual 55, 3) := by decide +kernel
theorem dX8_more_9 : decode cX8_more 9 = .ok (.iload_n 3, 1) := by decide +kernel
theorem dX8_more_10 : decode cX8_more 10 = .ok (.iadd, 1) := by decide +kernel
theorem dX8_more_11 : decode cX8_more 11 = .ok (.invokevirtual 43, 3) := by decide +kernel
theorem dX8_more_14 : decode cX8_more 14 = .ok (.return_, 1) := by decide +kernel
theorem dX8_sumOf_0 : decode cX8_sumOf 0 = .ok (.aload_n 0, 1) := by decide +kernel
theorem dX8_sumOf_1 : decode cX8_sumOf 1 = .ok (.iconst 0, 1) := by decide +kernel
theorem dX8_sumOf_2 : decode cX8_sumOf 2 = .ok (.iload_n 1, 1) := by decide +kernel
theorem dX8_sumOf_3 : decode cX8_sumOf 3 = .ok (.invokevirtual 55, 3) := by decide +kernel
theorem dX8_sumOf_6 : decode cX8_sumOf 6 = .ok (.aload_n 0, 1) := by decide +kernel
theorem dX8_sumOf_7 : decode cX8_sumOf 7 = .ok (.iconst 1, 1) := by decide +kernel
theorem dX8_sumOf_8 : decode cX8_sumOf 8 = .ok (.iload_n 1, 1) := by decide +kernel
theorem dX8_sumOf_9 : decode cX8_sumOf 9 = .ok (.invokevirtual 55, 3) := by decide +kernel
theorem dX8_sumOf_12 : decode cX8_sumOf 12 = .ok (.iadd, 1) := by decide +kernel
theorem dX8_sumOf_13 : decode cX8_sumOf 13 = .ok (.aload_n 0, 1) := by decide +kernel
theorem dX8_sumOf_14 : decode cX8_sumOf 14 = .ok (.iconst 2, 1) := by decide +kernel
theorem dX8_sumOf_15 : decode cX8_sumOf 15 = .ok (.iload_n 1, 1) := by decide +kernel
theorem dX8_sumOf_16 : decode cX8_sumOf 16 = .ok (.invokevirtual 55, 3) := by decide +kernel
theorem dX8_sumOf_19 : decode cX8_sumOf 19 = .ok (.iadd, 1) := by decide +kernel
theorem dX8_sumOf_20 : decode cX8_sumOf 20 = .ok (.ireturn, 1) := by decide +kernel
theorem dX8_levelOf_0 : decode cX8_levelOf 0 = .ok (.iload_n 1, 1) := by decide +kernel
theorem dX8_levelOf_1 : decode cX8_levelOf 1 = .ok (.iload_n 0, 1) := by decide +kernel
theorem dX8_levelOf_2 : decode cX8_levelOf 2 = .ok (.iadd, 1) := by decide +kernel
theorem dX8_levelOf_3 : decode cX8_levelOf 3 = .ok (.bipush 12, 2) := by decide +kernel
theorem dX8_levelOf_5 : decode cX8_levelOf 5 = .ok (.irem, 1) := by decide +kernel
theorem dX8_levelOf_6 : decode cX8_levelOf 6 = .ok (.bipush 6, 2) := by decide +kernel
theorem dX8_levelOf_8 : decode cX8_levelOf 8 = .ok (.isub, 1) := by decide +kernel
theorem dX8_levelOf_9 : decode cX8_levelOf 9 = .ok (.istore_n 2, 1) := by decide +kernel
theorem dX8_levelOf_10 : decode cX8_levelOf 10 = .ok (.iload_n 2, 1) := by decide +kernel
theorem dX8_levelOf_11 : decode cX8_levelOf 11 = .ok (.ifCond .ge 8, 3) := by decide +kernel
theorem dX8_levelOf_14 : decode cX8_levelOf 14 = .ok (.iload_n 2, 1) := by decide +kernel
theorem dX8_levelOf_15 : decode cX8_levelOf 15 = .ok (.ineg, 1) := by decide +kernel
theorem dX8_levelOf_16 : decode cX8_levelOf 16 = .ok (.goto 4, 3) := by decide +kernel
theorem dX8_levelOf_19 : decode cX8_levelOf 19 = .ok (.iload_n 2, 1) := by decide +kernel
theorem dX8_levelOf_20 : decode cX8_levelOf 20 = .ok (.ireturn, 1) := by decide +kernel
theorem dX8_isEnough_0 : decode cX8_isEnough 0 = .ok (.iload_n 2, 1) := by decide +kernel
theorem dX8_isEnough_1 : decode cX8_isEnough 1 = .ok (.iload_n 3, 1) := by decide +kernel
theorem dX8_isEnough_2 : decode cX8_isEnough 2 = .ok (.invokestatic 59, 3) := by decide +kernel
theorem dX8_isEnough_5 : decode cX8_isEnough 5 = .ok (.aload_n 0, 1) := by decide +kernel
theorem dX8_isEnough_6 : decode cX8_isEnough 6 = .ok (.iload_n 1, 1) := by decide +kernel
theorem dX8_isEnough_7 : decode cX8_isEnough 7 = .ok (.iconst 1, 1) := by decide +kernel
theorem dX8_isEnough_8 : decode cX8_isEnough 8 = .ok (.invokevirtual 55, 3) := by decide +kernel
theorem dX8_isEnough_11 : decode cX8_isEnough 11 = .ok (.if_icmp .lt 7, 3) := by decide +kernel
theorem dX8_isEnough_14 : decode cX8_isEnough 14 = .ok (.iconst 1, 1) := by decide +kernel
theorem dX8_isEnough_15 : decode cX8_isEnough 15 = .ok (.goto 4, 3) := by decide +kernel
theorem dX8_isEnough_18 : decode cX8_isEnough 18 = .ok (.iconst 0, 1) := by decide +kernel
theorem dX8_isEnough_19 : decode cX8_isEnough 19 = .ok (.ireturn, 1) := by decide +kernel
theorem dX8_print_0 : decode cX8_print 0 = .ok (.aload_n 0, 1) := by decide +kernel
theorem dX8_print_1 : decode cX8_print 1 = .ok (.getfield 28, 3) := by decide +kernel
theorem dX8_print_4 : decode cX8_print 4 = .ok (.iload_n 1, 1) := by decide +kernel
theorem dX8_print_5 : decode cX8_print 5 = .ok (.iconst 0, 1) := by decide +kernel
theorem dX8_print_6 : decode cX8_print 6 = .ok (.iastore, 1) := by decide +kernel
theorem dX8_print_7 : decode cX8_print 7 = .ok (.aload_n 0, 1) := by decide +kernel
theorem dX8_print_8 : decode cX8_print 8 = .ok (.iload_n 1, 1) := by decide +kernel
theorem dX8_print_9 : decode cX8_print 9 = .ok (.iconst 2, 1) := by decide +kernel
theorem dX8_print_10 : decode cX8_print 10 = .ok (.invokevirtual 55, 3) := by decide +kernel
theorem dX8_print_13 : decode cX8_print 13 = .ok (.istore_n 2, 1) := by decide +kernel
theorem dX8_print_14 : decode cX8_print 14 = .ok (.iload_n 2, 1) := by decide +kernel
theorem dX8_print_15 : decode cX8_print 15 = .ok (.iconst 2, 1) := by decide +kernel
theorem dX8_print_16 : decode cX8_print 16 = .ok (.iadd, 1) := by decide +kernel
theorem dX8_print_17 : decode cX8_print 17 = .ok (.bipush 23, 2) := by decide +kernel
theorem dX8_print_19 : decode cX8_print 19 = .ok (.if_icmp .gt 57, 3) := by decide +kernel
theorem dX8_print_22 : decode cX8_print 22 = .ok (.aload_n 0, 1) := by decide +kernel
theorem dX8_print_23 : decode cX8_print 23 = .ok (.iload_n 1, 1) := by decide +kernel
theorem dX8_print_24 : decode cX8_print 24 = .ok (.aload_n 0, 1) := by decide +kernel
theorem dX8_print_25 : decode cX8_print 25 = .ok (.iload_n 1, 1) := by decide +kernel
theorem dX8_print_26 : decode cX8_print 26 = .ok (.iconst 0, 1) := by decide +kernel
theorem dX8_print_27 : decode cX8_print 27 = .ok (.invokevirtual 55, 3) := by decide +kernel
theorem dX8_print_30 : decode cX8_print 30 = .ok (.iload_n 2, 1) := by decide +kernel
theorem dX8_print_31 : decode cX8_print 31 = .ok (.invokevirtual 62, 3) := by decide +kernel
theorem dX8_print_34 : decode cX8_print 34 = .ok (.ifCond .eq 36, 3) := by decide +kernel
theorem dX8_print_37 : decode cX8_print 37 = .ok (.aload_n 0, 1) := by decide +kernel
theorem dX8_print_38 : decode cX8_print 38 = .ok (.getfield 25, 3) := by decide +kernel
theorem dX8_print_41 : decode cX8_print 41 = .ok (.bipush 8, 2) := by decide +kernel
theorem dX8_print_43 : decode cX8_print 43 = .ok (.iload_n 1, 1) := by decide +kernel
theorem dX8_print_44 : decode cX8_print 44 = .ok (.imul, 1) := by decide +kernel
theorem dX8_print_45 : decode cX8_print 45 = .ok (.aload_n 0, 1) := by decide +kernel
theorem dX8_print_46 : decode cX8_print 46 = .ok (.getfield 28, 3) := by decide +kernel
theorem dX8_print_49 : decode cX8_print 49 = .ok (.iload_n 1, 1) := by decide +kernel
theorem dX8_print_50 : decode cX8_print 50 = .ok (.iaload, 1) := by decide +kernel
theorem dX8_print_51 : decode cX8_print 51 = .ok (.iadd, 1) := by decide +kernel
theorem dX8_print_52 : decode cX8_print 52 = .ok (.iload_n 2, 1) := by decide +kernel
theorem dX8_print_53 : decode cX8_print 53 = .ok (.iastore, 1) := by decide +kernel
theorem dX8_print_54 : decode cX8_print 54 = .ok (.aload_n 0, 1) := by decide +kernel
theorem dX8_print_55 : decode cX8_print 55 = .ok (.getfield 28, 3) := by decide +kernel
theorem dX8_print_58 : decode cX8_print 58 = .ok (.iload_n 1, 1) := by decide +kernel
theorem dX8_print_59 : decode cX8_print 59 = .ok (.dup2, 1) := by decide +kernel
theorem dX8_print_60 : decode cX8_print 60 = .ok (.iaload, 1) := by decide +kernel
theorem dX8_print_61 : decode cX8_print 61 = .ok (.iconst 1, 1) := by decide +kernel
theorem dX8_print_62 : decode cX8_print 62 = .ok (.iadd, 1) := by decide +kernel
theorem dX8_print_63 : decode cX8_print 63 = .ok (.iastore, 1) := by decide +kernel
theorem dX8_print_64 : decode cX8_print 64 = .ok (.iinc 2 3, 3) := by decide +kernel
theorem dX8_print_67 : decode cX8_print 67 = .ok (.goto (-53), 3) := by decide +kernel
theorem dX8_print_70 : decode cX8_print 70 = .ok (.iinc 2 1, 3) := by decide +kernel
theorem dX8_print_73 : decode cX8_print 73 = .ok (.goto (-59), 3) := by decide +kernel
theorem dX8_print_76 : decode cX8_print 76 = .ok (.return_, 1) := by decide +kernel
theorem dX8_printAll_0 : decode cX8_printAll 0 = .ok (.iconst 0, 1) := by decide +kernel
theorem dX8_printAll_1 : decode cX8_printAll 1 = .ok (.istore_n 1, 1) := by decide +kernel
theorem dX8_printAll_2 : decode cX8_printAll 2 = .ok (.iload_n 1, 1) := by decide +kernel
theorem dX8_printAll_3 : decode cX8_printAll 3 = .ok (.iconst 3, 1) := by decide +kernel
theorem dX8_printAll_4 : decode cX8_printAll 4 = .ok (.if_icmp .ge 14, 3) := by decide +kernel
theorem dX8_printAll_7 : decode cX8_printAll 7 = .ok (.aload_n 0, 1) := by decide +kernel
theorem dX8_printAll_8 : decode cX8_printAll 8 = .ok (.iload_n 1, 1) := by decide +kernel
theorem dX8_printAll_9 : decode cX8_printAll 9 = .ok (.invokevirtual 65, 3) := by decide +kernel
theorem dX8_printAll_12 : decode cX8_printAll 12 = .ok (.iinc 1 1, 3) := by decide +kernel
theorem dX8_printAll_15 : decode cX8_printAll 15 = .ok (.goto (-13), 3) := by decide +kernel
theorem dX8_printAll_18 : decode cX8_printAll 18 = .ok (.return_, 1) := by decide +kernel
theorem dX8_hourOf_0 : decode cX8_hourOf 0 = .ok (.aload_n 0, 1) := by decide +kernel
theorem dX8_hourOf_1 : decode cX8_hourOf 1 = .ok (.getfield 25, 3) := by decide +kernel
theorem dX8_hourOf_4 : decode cX8_hourOf 4 = .ok (.bipush 8, 2) := by decide +kernel
theorem dX8_hourOf_6 : decode cX8_hourOf 6 = .ok (.iload_n 1, 1) := by decide +kernel
theorem dX8_hourOf_7 : decode cX8_hourOf 7 = .ok (.imul, 1) := by decide +kernel
theorem dX8_hourOf_8 : decode cX8_hourOf 8 = .ok (.iload_n 2, 1) := by decide +kernel
theorem dX8_hourOf_9 : decode cX8_hourOf 9 = .ok (.iadd, 1) := by decide +kernel
theorem dX8_hourOf_10 : decode cX8_hourOf 10 = .ok (.iaload, 1) := by decide +kernel
theorem dX8_hourOf_11 : decode cX8_hourOf 11 = .ok (.ireturn, 1) := by decide +kernel
theorem dX8_pierOf_0 : decode cX8_pierOf 0 = .ok (.aload_n 0, 1) := by decide +kernel
theorem dX8_pierOf_1 : decode cX8_pierOf 1 = .ok (.iload_n 1, 1) := by decide +kernel
theorem dX8_pierOf_2 : decode cX8_pierOf 2 = .ok (.iconst 3, 1) := by decide +kernel
theorem dX8_pierOf_3 : decode cX8_pierOf 3 = .ok (.invokevirtual 55, 3) := by decide +kernel
theorem dX8_pierOf_6 : decode cX8_pierOf 6 = .ok (.iload_n 2, 1) := by decide +kernel
theorem dX8_pierOf_7 : decode cX8_pierOf 7 = .ok (.iadd, 1) := by decide +kernel
theorem dX8_pierOf_8 : decode cX8_pierOf 8 = .ok (.iconst 2, 1) := by decide +kernel
theorem dX8_pierOf_9 : decode cX8_pierOf 9 = .ok (.irem, 1) := by decide +kernel
theorem dX8_pierOf_10 : decode cX8_pierOf 10 = .ok (.ireturn, 1) := by decide +kernel
theorem dX8_usesPier_0 : decode cX8_usesPier 0 = .ok (.iconst 0, 1) := by decide +kernel
theorem dX8_usesPier_1 : decode cX8_usesPier 1 = .ok (.istore 4, 2) := by decide +kernel
theorem dX8_usesPier_3 : decode cX8_usesPier 3 = .ok (.iload 4, 2) := by decide +kernel
theorem dX8_usesPier_5 : decode cX8_usesPier 5 = .ok (.aload_n 0, 1) := by decide +kernel
theorem dX8_usesPier_6 : decode cX8_usesPier 6 = .ok (.getfield 28, 3) := by decide +kernel
theorem dX8_usesPier_9 : decode cX8_usesPier 9 = .ok (.iload_n 1, 1) := by decide +kernel
theorem dX8_usesPier_10 : decode cX8_usesPier 10 = .ok (.iaload, 1) := by decide +kernel
theorem dX8_usesPier_11 : decode cX8_usesPier 11 = .ok (.if_icmp .ge 81, 3) := by decide +kernel
theorem dX8_usesPier_14 : decode cX8_usesPier 14 = .ok (.aload_n 0, 1) := by decide +kernel
theorem dX8_usesPier_15 : decode cX8_usesPier 15 = .ok (.iload_n 1, 1) := by decide +kernel
theorem dX8_usesPier_16 : decode cX8_usesPier 16 = .ok (.iload 4, 2) := by decide +kernel
theorem dX8_usesPier_18 : decode cX8_usesPier 18 = .ok (.invokevirtual 69, 3) := by decide +kernel
theorem dX8_usesPier_21 : decode cX8_usesPier 21 = .ok (.iload_n 3, 1) := by decide +kernel
theorem dX8_usesPier_22 : decode cX8_usesPier 22 = .ok (.if_icmp .ne 18, 3) := by decide +kernel
theorem dX8_usesPier_25 : decode cX8_usesPier 25 = .ok (.aload_n 0, 1) := by decide +kernel
theorem dX8_usesPier_26 : decode cX8_usesPier 26 = .ok (.iload_n 1, 1) := by decide +kernel
theorem dX8_usesPier_27 : decode cX8_usesPier 27 = .ok (.iload 4, 2) := by decide +kernel
theorem dX8_usesPier_29 : decode cX8_usesPier 29 = .ok (.invokevirtual 72, 3) := by decide +kernel
theorem dX8_usesPier_32 : decode cX8_usesPier 32 = .ok (.iload_n 2, 1) := by decide +kernel
theorem dX8_usesPier_33 : decode cX8_usesPier 33 = .ok (.if_icmp .ne 7, 3) := by decide +kernel
theorem dX8_usesPier_36 : decode cX8_usesPier 36 = .ok (.iconst 1, 1) := by decide +kernel
theorem dX8_usesPier_37 : decode cX8_usesPier 37 = .ok (.goto 4, 3) := by decide +kernel
theorem dX8_usesPier_40 : decode cX8_usesPier 40 = .ok (.iconst 0, 1) := by decide +kernel
theorem dX8_usesPier_41 : decode cX8_usesPier 41 = .ok (.istore 5, 2) := by decide +kernel
theorem dX8_usesPier_43 : decode cX8_usesPier 43 = .ok (.aload_n 0, 1) := by decide +kernel
theorem dX8_usesPier_44 : decode cX8_usesPier 44 = .ok (.iload_n 1, 1) := by decide +kernel
theorem dX8_usesPier_45 : decode cX8_usesPier 45 = .ok (.iload 4, 2) := by decide +kernel
theorem dX8_usesPier_47 : decode cX8_usesPier 47 = .ok (.invokevirtual 69, 3) := by decide +kernel
theorem dX8_usesPier_50 : decode cX8_usesPier 50 = .ok (.iconst 2, 1) := by decide +kernel
theorem dX8_usesPier_51 : decode cX8_usesPier 51 = .ok (.iadd, 1) := by decide +kernel
theorem dX8_usesPier_52 : decode cX8_usesPier 52 = .ok (.iload_n 3, 1) := by decide +kernel
theorem dX8_usesPier_53 : decode cX8_usesPier 53 = .ok (.if_icmp .ne 18, 3) := by decide +kernel
theorem dX8_usesPier_56 : decode cX8_usesPier 56 = .ok (.aload_n 0, 1) := by decide +kernel
theorem dX8_usesPier_57 : decode cX8_usesPier 57 = .ok (.iload_n 1, 1) := by decide +kernel
theorem dX8_usesPier_58 : decode cX8_usesPier 58 = .ok (.iload 4, 2) := by decide +kernel
theorem dX8_usesPier_60 : decode cX8_usesPier 60 = .ok (.invokevirtual 72, 3) := by decide +kernel
theorem dX8_usesPier_63 : decode cX8_usesPier 63 = .ok (.iload_n 2, 1) := by decide +kernel
theorem dX8_usesPier_64 : decode cX8_usesPier 64 = .ok (.if_icmp .eq 7, 3) := by decide +kernel
theorem dX8_usesPier_67 : decode cX8_usesPier 67 = .ok (.iconst 1, 1) := by decide +kernel
theorem dX8_usesPier_68 : decode cX8_usesPier 68 = .ok (.goto 4, 3) := by decide +kernel
theorem dX8_usesPier_71 : decode cX8_usesPier 71 = .ok (.iconst 0, 1) := by decide +kernel
theorem dX8_usesPier_72 : decode cX8_usesPier 72 = .ok (.istore 6, 2) := by decide +kernel
theorem dX8_usesPier_74 : decode cX8_usesPier 74 = .ok (.iload 5, 2) := by decide +kernel
theorem dX8_usesPier_76 : decode cX8_usesPier 76 = .ok (.ifCond .ne 8, 3) := by decide +kernel
theorem dX8_usesPier_79 : decode cX8_usesPier 79 = .ok (.iload 6, 2) := by decide +kernel
theorem dX8_usesPier_81 : decode cX8_usesPier 81 = .ok (.ifCond .eq 5, 3) := by decide +kernel
theorem dX8_usesPier_84 : decode cX8_usesPier 84 = .ok (.iconst 1, 1) := by decide +kernel
theorem dX8_usesPier_85 : decode cX8_usesPier 85 = .ok (.ireturn, 1) := by decide +kernel
theorem dX8_usesPier_86 : decode cX8_usesPier 86 = .ok (.iinc 4 1, 3) := by decide +kernel
theorem dX8_usesPier_89 : decode cX8_usesPier 89 = .ok (.goto (-86), 3) := by decide +kernel
theorem dX8_usesPier_92 : decode cX8_usesPier 92 = .ok (.iconst 0, 1) := by decide +kernel
theorem dX8_usesPier_93 : decode cX8_usesPier 93 = .ok (.ireturn, 1) := by decide +kernel
theorem dX8_usesSet_0 : decode cX8_usesSet 0 = .ok (.iconst 0, 1) := by decide +kernel
theorem dX8_usesSet_1 : decode cX8_usesSet 1 = .ok (.istore_n 3, 1) := by decide +kernel
theorem dX8_usesSet_2 : decode cX8_usesSet 2 = .ok (.iconst 0, 1) := by decide +kernel
theorem dX8_usesSet_3 : decode cX8_usesSet 3 = .ok (.istore 4, 2) := by decide +kernel
theorem dX8_usesSet_5 : decode cX8_usesSet 5 = .ok (.iload 4, 2) := by decide +kernel
theorem dX8_usesSet_7 : decode cX8_usesSet 7 = .ok (.iconst 3, 1) := by decide +kernel
theorem dX8_usesSet_8 : decode cX8_usesSet 8 = .ok (.if_icmp .ge 31, 3) := by decide +kernel
theorem dX8_usesSet_11 : decode cX8_usesSet 11 = .ok (.iload_n 3, 1) := by decide +kernel
theorem dX8_usesSet_12 : decode cX8_usesSet 12 = .ok (.aload_n 0, 1) := by decide +kernel
theorem dX8_usesSet_13 : decode cX8_usesSet 13 = .ok (.iload 4, 2) := by decide +kernel
theorem dX8_usesSet_15 : decode cX8_usesSet 15 = .ok (.iload_n 1, 1) := by decide +kernel
theorem dX8_usesSet_16 : decode cX8_usesSet 16 = .ok (.iload_n 2, 1) := by decide +kernel
theorem dX8_usesSet_17 : decode cX8_usesSet 17 = .ok (.invokevirtual 75, 3) := by decide +kernel
theorem dX8_usesSet_20 : decode cX8_usesSet 20 = .ok (.ifCond .eq 10, 3) := by decide +kernel
theorem dX8_usesSet_23 : decode cX8_usesSet 23 = .ok (.iconst 1, 1) := by decide +kernel
theorem dX8_usesSet_24 : decode cX8_usesSet 24 = .ok (.iload 4, 2) := by decide +kernel
theorem dX8_usesSet_26 : decode cX8_usesSet 26 = .ok (.ishl, 1) := by decide +kernel
theorem dX8_usesSet_27 : decode cX8_usesSet 27 = .ok (.goto 4, 3) := by decide +kernel
theorem dX8_usesSet_30 : decode cX8_usesSet 30 = .ok (.iconst 0, 1) := by decide +kernel
theorem dX8_usesSet_31 : decode cX8_usesSet 31 = .ok (.ior, 1) := by decide +kernel
theorem dX8_usesSet_32 : decode cX8_usesSet 32 = .ok (.istore_n 3, 1) := by decide +kernel
theorem dX8_usesSet_33 : decode cX8_usesSet 33 = .ok (.iinc 4 1, 3) := by decide +kernel
theorem dX8_usesSet_36 : decode cX8_usesSet 36 = .ok (.goto (-31), 3) := by decide +kernel
theorem dX8_usesSet_39 : decode cX8_usesSet 39 = .ok (.iload_n 3, 1) := by decide +kernel
theorem dX8_usesSet_40 : decode cX8_usesSet 40 = .ok (.ireturn, 1) := by decide +kernel
theorem dX8_bits_0 : decode cX8_bits 0 = .ok (.iload_n 0, 1) := by decide +kernel
theorem dX8_bits_1 : decode cX8_bits 1 = .ok (.iconst 1, 1) := by decide +kernel
theorem dX8_bits_2 : decode cX8_bits 2 = .ok (.iand, 1) := by decide +kernel
theorem dX8_bits_3 : decode cX8_bits 3 = .ok (.iload_n 0, 1) := by decide +kernel
theorem dX8_bits_4 : decode cX8_bits 4 = .ok (.iconst 1, 1) := by decide +kernel
theorem dX8_bits_5 : decode cX8_bits 5 = .ok (.ishr, 1) := by decide +kernel
theorem dX8_bits_6 : decode cX8_bits 6 = .ok (.iconst 1, 1) := by decide +kernel
theorem dX8_bits_7 : decode cX8_bits 7 = .ok (.iand, 1) := by decide +kernel
theorem dX8_bits_8 : decode cX8_bits 8 = .ok (.iadd, 1) := by decide +kernel
theorem dX8_bits_9 : decode cX8_bits 9 = .ok (.iload_n 0, 1) := by decide +kernel
theorem dX8_bits_10 : decode cX8_bits 10 = .ok (.iconst 2, 1) := by decide +kernel
theorem dX8_bits_11 : decode cX8_bits 11 = .ok (.ishr, 1) := by decide +kernel
theorem dX8_bits_12 : decode cX8_bits 12 = .ok (.iconst 1, 1) := by decide +kernel
theorem dX8_bits_13 : decode cX8_bits 13 = .ok (.iand, 1) := by decide +kernel
theorem dX8_bits_14 : decode cX8_bits 14 = .ok (.iadd, 1) := by decide +kernel
theorem dX8_bits_15 : decode cX8_bits 15 = .ok (.ireturn, 1) := by decide +kernel
theorem dX8_clashes_0 : decode cX8_clashes 0 = .ok (.iconst 0, 1) := by decide +kernel
theorem dX8_clashes_1 : decode cX8_clashes 1 = .ok (.istore_n 1, 1) := by decide +kernel
theorem dX8_clashes_2 : decode cX8_clashes 2 = .ok (.iconst 0, 1) := by decide +kernel
theorem dX8_clashes_3 : decode cX8_clashes 3 = .ok (.istore_n 2, 1) := by decide +kernel
theorem dX8_clashes_4 : decode cX8_clashes 4 = .ok (.iload_n 2, 1) := by decide +kernel
theorem dX8_clashes_5 : decode cX8_clashes 5 = .ok (.bipush 48, 2) := by decide +kernel
theorem dX8_clashes_7 : decode cX8_clashes 7 = .ok (.if_icmp .ge 34, 3) := by decide +kernel
theorem dX8_clashes_10 : decode cX8_clashes 10 = .ok (.iload_n 1, 1) := by decide +kernel
theorem dX8_clashes_11 : decode cX8_clashes 11 = .ok (.aload_n 0, 1) := by decide +kernel
theorem dX8_clashes_12 : decode cX8_clashes 12 = .ok (.iload_n 2, 1) := by decide +kernel
theorem dX8_clashes_13 : decode cX8_clashes 13 = .ok (.iconst 2, 1) := by decide +kernel
theorem dX8_clashes_14 : decode cX8_clashes 14 = .ok (.irem, 1) := by decide +kernel
theorem dX8_clashes_15 : decode cX8_clashes 15 = .ok (.iload_n 2, 1) := by decide +kernel
theorem dX8_clashes_16 : decode cX8_clashes 16 = .ok (.iconst 2, 1) := by decide +kernel
theorem dX8_clashes_17 : decode cX8_clashes 17 = .ok (.idiv, 1) := by decide +kernel
theorem dX8_clashes_18 : decode cX8_clashes 18 = .ok (.invokevirtual 78, 3) := by decide +kernel
theorem dX8_clashes_21 : decode cX8_clashes 21 = .ok (.invokestatic 81, 3) := by decide +kernel
theorem dX8_clashes_24 : decode cX8_clashes 24 = .ok (.iconst 1, 1) := by decide +kernel
theorem dX8_clashes_25 : decode cX8_clashes 25 = .ok (.if_icmp .le 7, 3) := by decide +kernel
theorem dX8_clashes_28 : decode cX8_clashes 28 = .ok (.iconst 1, 1) := by decide +kernel
theorem dX8_clashes_29 : decode cX8_clashes 29 = .ok (.goto 4, 3) := by decide +kernel
theorem dX8_clashes_32 : decode cX8_clashes 32 = .ok (.iconst 0, 1) := by decide +kernel
theorem dX8_clashes_33 : decode cX8_clashes 33 = .ok (.iadd, 1) := by decide +kernel
theorem dX8_clashes_34 : decode cX8_clashes 34 = .ok (.istore_n 1, 1) := by decide +kernel
theorem dX8_clashes_35 : decode cX8_clashes 35 = .ok (.iinc 2 1, 3) := by decide +kernel
theorem dX8_clashes_38 : decode cX8_clashes 38 = .ok (.goto (-34), 3) := by decide +kernel
theorem dX8_clashes_41 : decode cX8_clashes 41 = .ok (.iload_n 1, 1) := by decide +kernel
theorem dX8_clashes_42 : decode cX8_clashes 42 = .ok (.ireturn, 1) := by decide +kernel
theorem dX8_isThere_0 : decode cX8_isThere 0 = .ok (.aload_n 0, 1) := by decide +kernel
theorem dX8_isThere_1 : decode cX8_isThere 1 = .ok (.getfield 31, 3) := by decide +kernel
theorem dX8_isThere_4 : decode cX8_isThere 4 = .ok (.iload_n 1, 1) := by decide +kernel
theorem dX8_isThere_5 : decode cX8_isThere 5 = .ok (.iaload, 1) := by decide +kernel
theorem dX8_isThere_6 : decode cX8_isThere 6 = .ok (.iload_n 2, 1) := by decide +kernel
theorem dX8_isThere_7 : decode cX8_isThere 7 = .ok (.if_icmp .ne 17, 3) := by decide +kernel
theorem dX8_isThere_10 : decode cX8_isThere 10 = .ok (.aload_n 0, 1) := by decide +kernel
theorem dX8_isThere_11 : decode cX8_isThere 11 = .ok (.getfield 34, 3) := by decide +kernel
theorem dX8_isThere_14 : decode cX8_isThere 14 = .ok (.iload_n 1, 1) := by decide +kernel
theorem dX8_isThere_15 : decode cX8_isThere 15 = .ok (.iaload, 1) := by decide +kernel
theorem dX8_isThere_16 : decode cX8_isThere 16 = .ok (.iload_n 3, 1) := by decide +kernel
theorem dX8_isThere_17 : decode cX8_isThere 17 = .ok (.if_icmp .gt 7, 3) := by decide +kernel
theorem dX8_isThere_20 : decode cX8_isThere 20 = .ok (.iconst 1, 1) := by decide +kernel
theorem dX8_isThere_21 : decode cX8_isThere 21 = .ok (.goto 4, 3) := by decide +kernel
theorem dX8_isThere_24 : decode cX8_isThere 24 = .ok (.iconst 0, 1) := by decide +kernel
theorem dX8_isThere_25 : decode cX8_isThere 25 = .ok (.ireturn, 1) := by decide +kernel
theorem dX8_wants_0 : decode cX8_wants 0 = .ok (.aload_n 0, 1) := by decide +kernel
theorem dX8_wants_1 : decode cX8_wants 1 = .ok (.getfield 34, 3) := by decide +kernel
theorem dX8_wants_4 : decode cX8_wants 4 = .ok (.iload_n 1, 1) := by decide +kernel
theorem dX8_wants_5 : decode cX8_wants 5 = .ok (.iaload, 1) := by decide +kernel
theorem dX8_wants_6 : decode cX8_wants 6 = .ok (.iload_n 2, 1) := by decide +kernel
theorem dX8_wants_7 : decode cX8_wants 7 = .ok (.if_icmp .gt 45, 3) := by decide +kernel
theorem dX8_wants_10 : decode cX8_wants 10 = .ok (.aload_n 0, 1) := by decide +kernel
theorem dX8_wants_11 : decode cX8_wants 11 = .ok (.getfield 37, 3) := by decide +kernel
theorem dX8_wants_14 : decode cX8_wants 14 = .ok (.iload_n 1, 1) := by decide +kernel
theorem dX8_wants_15 : decode cX8_wants 15 = .ok (.iaload, 1) := by decide +kernel
theorem dX8_wants_16 : decode cX8_wants 16 = .ok (.aload_n 0, 1) := by decide +kernel
theorem dX8_wants_17 : decode cX8_wants 17 = .ok (.getfield 28, 3) := by decide +kernel
theorem dX8_wants_20 : decode cX8_wants 20 = .ok (.iload_n 1, 1) := by decide +kernel
theorem dX8_wants_21 : decode cX8_wants 21 = .ok (.iaload, 1) := by decide +kernel
theorem dX8_wants_22 : decode cX8_wants 22 = .ok (.if_icmp .ge 30, 3) := by decide +kernel
theorem dX8_wants_25 : decode cX8_wants 25 = .ok (.aload_n 0, 1) := by decide +kernel
theorem dX8_wants_26 : decode cX8_wants 26 = .ok (.iload_n 1, 1) := by decide +kernel
theorem dX8_wants_27 : decode cX8_wants 27 = .ok (.aload_n 0, 1) := by decide +kernel
theorem dX8_wants_28 : decode cX8_wants 28 = .ok (.getfield 37, 3) := by decide +kernel
theorem dX8_wants_31 : decode cX8_wants 31 = .ok (.iload_n 1, 1) := by decide +kernel
theorem dX8_wants_32 : decode cX8_wants 32 = .ok (.iaload, 1) := by decide +kernel
theorem dX8_wants_33 : decode cX8_wants 33 = .ok (.invokevirtual 69, 3) := by decide +kernel
theorem dX8_wants_36 : decode cX8_wants 36 = .ok (.iload_n 2, 1) := by decide +kernel
theorem dX8_wants_37 : decode cX8_wants 37 = .ok (.if_icmp .gt 15, 3) := by decide +kernel
theorem dX8_wants_40 : decode cX8_wants 40 = .ok (.iload_n 2, 1) := by decide +kernel
theorem dX8_wants_41 : decode cX8_wants 41 = .ok (.iconst 2, 1) := by decide +kernel
theorem dX8_wants_42 : decode cX8_wants 42 = .ok (.iadd, 1) := by decide +kernel
theorem dX8_wants_43 : decode cX8_wants 43 = .ok (.bipush 23, 2) := by decide +kernel
theorem dX8_wants_45 : decode cX8_wants 45 = .ok (.if_icmp .gt 7, 3) := by decide +kernel
theorem dX8_wants_48 : decode cX8_wants 48 = .ok (.iconst 1, 1) := by decide +kernel
theorem dX8_wants_49 : decode cX8_wants 49 = .ok (.goto 4, 3) := by decide +kernel
theorem dX8_wants_52 : decode cX8_wants 52 = .ok (.iconst 0, 1) := by decide +kernel
theorem dX8_wants_53 : decode cX8_wants 53 = .ok (.ireturn, 1) := by decide +kernel
theorem dX8_depart_0 : decode cX8_depart 0 = .ok (.aload_n 0, 1) := by decide +kernel
theorem dX8_depart_1 : decode cX8_depart 1 = .ok (.getfield 31, 3) := by decide +kernel
theorem dX8_depart_4 : decode cX8_depart 4 = .ok (.iload_n 1, 1) := by decide +kernel
theorem dX8_depart_5 : decode cX8_depart 5 = .ok (.iconst 1, 1) := by decide +kernel
theorem dX8_depart_6 : decode cX8_depart 6 = .ok (.aload_n 0, 1) := by decide +kernel
theorem dX8_depart_7 : decode cX8_depart 7 = .ok (.getfield 31, 3) := by decide +kernel
theorem dX8_depart_10 : decode cX8_depart 10 = .ok (.iload_n 1, 1) := by decide +kernel
theorem dX8_depart_11 : decode cX8_depart 11 = .ok (.iaload, 1) := by decide +kernel
theorem dX8_depart_12 : decode cX8_depart 12 = .ok (.isub, 1) := by decide +kernel
theorem dX8_depart_13 : decode cX8_depart 13 = .ok (.iastore, 1) := by decide +kernel
theorem dX8_depart_14 : decode cX8_depart 14 = .ok (.aload_n 0, 1) := by decide +kernel
theorem dX8_depart_15 : decode cX8_depart 15 = .ok (.getfield 34, 3) := by decide +kernel
theorem dX8_depart_18 : decode cX8_depart 18 = .ok (.iload_n 1, 1) := by decide +kernel
theorem dX8_depart_19 : decode cX8_depart 19 = .ok (.iload_n 2, 1) := by decide +kernel
theorem dX8_depart_20 : decode cX8_depart 20 = .ok (.iconst 2, 1) := by decide +kernel
theorem dX8_depart_21 : decode cX8_depart 21 = .ok (.iadd, 1) := by decide +kernel
theorem dX8_depart_22 : decode cX8_depart 22 = .ok (.iastore, 1) := by decide +kernel
theorem dX8_depart_23 : decode cX8_depart 23 = .ok (.aload_n 0, 1) := by decide +kernel
theorem dX8_depart_24 : decode cX8_depart 24 = .ok (.getfield 37, 3) := by decide +kernel
theorem dX8_depart_27 : decode cX8_depart 27 = .ok (.iload_n 1, 1) := by decide +kernel
theorem dX8_depart_28 : decode cX8_depart 28 = .ok (.dup2, 1) := by decide +kernel
theorem dX8_depart_29 : decode cX8_depart 29 = .ok (.iaload, 1) := by decide +kernel
theorem dX8_depart_30 : decode cX8_depart 30 = .ok (.iconst 1, 1) := by decide +kernel
theorem dX8_depart_31 : decode cX8_depart 31 = .ok (.iadd, 1) := by decide +kernel
theorem dX8_depart_32 : decode cX8_depart 32 = .ok (.iastore, 1) := by decide +kernel
theorem dX8_depart_33 : decode cX8_depart 33 = .ok (.aload_n 0, 1) := by decide +kernel
theorem dX8_depart_34 : decode cX8_depart 34 = .ok (.iload_n 1, 1) := by decide +kernel
theorem dX8_depart_35 : decode cX8_depart 35 = .ok (.iconst 4, 1) := by decide +kernel
theorem dX8_depart_36 : decode cX8_depart 36 = .ok (.iconst 1, 1) := by decide +kernel
theorem dX8_depart_37 : decode cX8_depart 37 = .ok (.invokevirtual 85, 3) := by decide +kernel
theorem dX8_depart_40 : decode cX8_depart 40 = .ok (.return_, 1) := by decide +kernel
theorem dX8_draw_0 : decode cX8_draw 0 = .ok (.aload_n 0, 1) := by decide +kernel
theorem dX8_draw_1 : decode cX8_draw 1 = .ok (.getfield 7, 3) := by decide +kernel
theorem dX8_draw_4 : decode cX8_draw 4 = .ok (.iconst 2, 1) := by decide +kernel
theorem dX8_draw_5 : decode cX8_draw 5 = .ok (.bipush 75, 2) := by decide +kernel
theorem dX8_draw_7 : decode cX8_draw 7 = .ok (.aload_n 0, 1) := by decide +kernel
theorem dX8_draw_8 : decode cX8_draw 8 = .ok (.getfield 7, 3) := by decide +kernel
theorem dX8_draw_11 : decode cX8_draw 11 = .ok (.iconst 2, 1) := by decide +kernel
theorem dX8_draw_12 : decode cX8_draw 12 = .ok (.iaload, 1) := by decide +kernel
theorem dX8_draw_13 : decode cX8_draw 13 = .ok (.imul, 1) := by decide +kernel
theorem dX8_draw_14 : decode cX8_draw 14 = .ok (.bipush 74, 2) := by decide +kernel
theorem dX8_draw_16 : decode cX8_draw 16 = .ok (.iadd, 1) := by decide +kernel
theorem dX8_draw_17 : decode cX8_draw 17 = .ok (.ldc 88, 2) := by decide +kernel
theorem dX8_draw_19 : decode cX8_draw 19 = .ok (.irem, 1) := by decide +kernel
theorem dX8_draw_20 : decode cX8_draw 20 = .ok (.iastore, 1) := by decide +kernel
theorem dX8_draw_21 : decode cX8_draw 21 = .ok (.aload_n 0, 1) := by decide +kernel
theorem dX8_draw_22 : decode cX8_draw 22 = .ok (.getfield 7, 3) := by decide +kernel
theorem dX8_draw_25 : decode cX8_draw 25 = .ok (.iconst 5, 1) := by decide +kernel
theorem dX8_draw_26 : decode cX8_draw 26 = .ok (.dup2, 1) := by decide +kernel
theorem dX8_draw_27 : decode cX8_draw 27 = .ok (.iaload, 1) := by decide +kernel
theorem dX8_draw_28 : decode cX8_draw 28 = .ok (.iconst 1, 1) := by decide +kernel
theorem dX8_draw_29 : decode cX8_draw 29 = .ok (.iadd, 1) := by decide +kernel
theorem dX8_draw_30 : decode cX8_draw 30 = .ok (.iastore, 1) := by decide +kernel
theorem dX8_draw_31 : decode cX8_draw 31 = .ok (.aload_n 0, 1) := by decide +kernel
theorem dX8_draw_32 : decode cX8_draw 32 = .ok (.getfield 7, 3) := by decide +kernel
theorem dX8_draw_35 : decode cX8_draw 35 = .ok (.iconst 2, 1) := by decide +kernel
theorem dX8_draw_36 : decode cX8_draw 36 = .ok (.iaload, 1) := by decide +kernel
theorem dX8_draw_37 : decode cX8_draw 37 = .ok (.iload_n 1, 1) := by decide +kernel
theorem dX8_draw_38 : decode cX8_draw 38 = .ok (.invokestatic 81, 3) := by decide +kernel
theorem dX8_draw_41 : decode cX8_draw 41 = .ok (.irem, 1) := by decide +kernel
theorem dX8_draw_42 : decode cX8_draw 42 = .ok (.istore_n 2, 1) := by decide +kernel
theorem dX8_draw_43 : decode cX8_draw 43 = .ok (.iconst 0, 1) := by decide +kernel
theorem dX8_draw_44 : decode cX8_draw 44 = .ok (.istore_n 3, 1) := by decide +kernel
theorem dX8_draw_45 : decode cX8_draw 45 = .ok (.iload_n 1, 1) := by decide +kernel
theorem dX8_draw_46 : decode cX8_draw 46 = .ok (.iload_n 3, 1) := by decide +kernel
theorem dX8_draw_47 : decode cX8_draw 47 = .ok (.ishr, 1) := by decide +kernel
theorem dX8_draw_48 : decode cX8_draw 48 = .ok (.iconst 1, 1) := by decide +kernel
theorem dX8_draw_49 : decode cX8_draw 49 = .ok (.iand, 1) := by decide +kernel
theorem dX8_draw_50 : decode cX8_draw 50 = .ok (.ifCond .eq 7, 3) := by decide +kernel
theorem dX8_draw_53 : decode cX8_draw 53 = .ok (.iload_n 2, 1) := by decide +kernel
theorem dX8_draw_54 : decode cX8_draw 54 = .ok (.ifCond .le 17, 3) := by decide +kernel
theorem dX8_draw_57 : decode cX8_draw 57 = .ok (.iload_n 2, 1) := by decide +kernel
theorem dX8_draw_58 : decode cX8_draw 58 = .ok (.iload_n 1, 1) := by decide +kernel
theorem dX8_draw_59 : decode cX8_draw 59 = .ok (.iload_n 3, 1) := by decide +kernel
theorem dX8_draw_60 : decode cX8_draw 60 = .ok (.ishr, 1) := by decide +kernel
theorem dX8_draw_61 : decode cX8_draw 61 = .ok (.iconst 1, 1) := by decide +kernel
theorem dX8_draw_62 : decode cX8_draw 62 = .ok (.iand, 1) := by decide +kernel
theorem dX8_draw_63 : decode cX8_draw 63 = .ok (.isub, 1) := by decide +kernel
theorem dX8_draw_64 : decode cX8_draw 64 = .ok (.istore_n 2, 1) := by decide +kernel
theorem dX8_draw_65 : decode cX8_draw 65 = .ok (.iinc 3 1, 3) := by decide +kernel
theorem dX8_draw_68 : decode cX8_draw 68 = .ok (.goto (-23), 3) := by decide +kernel
theorem dX8_draw_71 : decode cX8_draw 71 = .ok (.iload_n 3, 1) := by decide +kernel
theorem dX8_draw_72 : decode cX8_draw 72 = .ok (.ireturn, 1) := by decide +kernel
theorem dX8_givePier_0 : decode cX8_givePier 0 = .ok (.iload_n 2, 1) := by decide +kernel
theorem dX8_givePier_1 : decode cX8_givePier 1 = .ok (.ifCond .ne 15, 3) := by decide +kernel
theorem dX8_givePier_4 : decode cX8_givePier 4 = .ok (.iload_n 1, 1) := by decide +kernel
theorem dX8_givePier_5 : decode cX8_givePier 5 = .ok (.invokestatic 81, 3) := by decide +kernel
theorem dX8_givePier_8 : decode cX8_givePier 8 = .ok (.iconst 1, 1) := by decide +kernel
theorem dX8_givePier_9 : decode cX8_givePier 9 = .ok (.if_icmp .le 7, 3) := by decide +kernel
theorem dX8_givePier_12 : decode cX8_givePier 12 = .ok (.iconst 1, 1) := by decide +kernel
theorem dX8_givePier_13 : decode cX8_givePier 13 = .ok (.goto 4, 3) := by decide +kernel
theorem dX8_givePier_16 : decode cX8_givePier 16 = .ok (.iconst 0, 1) := by decide +kernel
theorem dX8_givePier_17 : decode cX8_givePier 17 = .ok (.istore 4, 2) := by decide +kernel
theorem dX8_givePier_19 : decode cX8_givePier 19 = .ok (.iload_n 2, 1) := by decide +kernel
theorem dX8_givePier_20 : decode cX8_givePier 20 = .ok (.ifCond .ne 7, 3) := by decide +kernel
theorem dX8_givePier_23 : decode cX8_givePier 23 = .ok (.iload_n 1, 1) := by decide +kernel
theorem dX8_givePier_24 : decode cX8_givePier 24 = .ok (.ifCond .ne 8, 3) := by decide +kernel
theorem dX8_givePier_27 : decode cX8_givePier 27 = .ok (.bipush (-5), 2) := by decide +kernel
theorem dX8_givePier_29 : decode cX8_givePier 29 = .ok (.goto 19, 3) := by decide +kernel
theorem dX8_givePier_32 : decode cX8_givePier 32 = .ok (.iload 4, 2) := by decide +kernel
theorem dX8_givePier_34 : decode cX8_givePier 34 = .ok (.ifCond .eq 11, 3) := by decide +kernel
theorem dX8_givePier_37 : decode cX8_givePier 37 = .ok (.aload_n 0, 1) := by decide +kernel
theorem dX8_givePier_38 : decode cX8_givePier 38 = .ok (.iload_n 1, 1) := by decide +kernel
theorem dX8_givePier_39 : decode cX8_givePier 39 = .ok (.invokevirtual 89, 3) := by decide +kernel
theorem dX8_givePier_42 : decode cX8_givePier 42 = .ok (.goto 6, 3) := by decide +kernel
theorem dX8_givePier_45 : decode cX8_givePier 45 = .ok (.iload_n 1, 1) := by decide +kernel
theorem dX8_givePier_46 : decode cX8_givePier 46 = .ok (.iconst 2, 1) := by decide +kernel
theorem dX8_givePier_47 : decode cX8_givePier 47 = .ok (.idiv, 1) := by decide +kernel
theorem dX8_givePier_48 : decode cX8_givePier 48 = .ok (.istore 5, 2) := by decide +kernel
theorem dX8_givePier_50 : decode cX8_givePier 50 = .ok (.iconst 0, 1) := by decide +kernel
theorem dX8_givePier_51 : decode cX8_givePier 51 = .ok (.istore 6, 2) := by decide +kernel
theorem dX8_givePier_53 : decode cX8_givePier 53 = .ok (.iload 6, 2) := by decide +kernel
theorem dX8_givePier_55 : decode cX8_givePier 55 = .ok (.iconst 3, 1) := by decide +kernel
theorem dX8_givePier_56 : decode cX8_givePier 56 = .ok (.if_icmp .ge 65, 3) := by decide +kernel
theorem dX8_givePier_59 : decode cX8_givePier 59 = .ok (.iload_n 1, 1) := by decide +kernel
theorem dX8_givePier_60 : decode cX8_givePier 60 = .ok (.iload 6, 2) := by decide +kernel
theorem dX8_givePier_62 : decode cX8_givePier 62 = .ok (.ishr, 1) := by decide +kernel
theorem dX8_givePier_63 : decode cX8_givePier 63 = .ok (.iconst 1, 1) := by decide +kernel
theorem dX8_givePier_64 : decode cX8_givePier 64 = .ok (.iand, 1) := by decide +kernel
theorem dX8_givePier_65 : decode cX8_givePier 65 = .ok (.ifCond .ne 6, 3) := by decide +kernel
theorem dX8_givePier_68 : decode cX8_givePier 68 = .ok (.goto 47, 3) := by decide +kernel
theorem dX8_givePier_71 : decode cX8_givePier 71 = .ok (.iload 6, 2) := by decide +kernel
theorem dX8_givePier_73 : decode cX8_givePier 73 = .ok (.iload 5, 2) := by decide +kernel
theorem dX8_givePier_75 : decode cX8_givePier 75 = .ok (.if_icmp .ne 13, 3) := by decide +kernel
theorem dX8_givePier_78 : decode cX8_givePier 78 = .ok (.aload_n 0, 1) := by decide +kernel
theorem dX8_givePier_79 : decode cX8_givePier 79 = .ok (.iload 6, 2) := by decide +kernel
theorem dX8_givePier_81 : decode cX8_givePier 81 = .ok (.iload_n 3, 1) := by decide +kernel
theorem dX8_givePier_82 : decode cX8_givePier 82 = .ok (.invokevirtual 92, 3) := by decide +kernel
theorem dX8_givePier_85 : decode cX8_givePier 85 = .ok (.goto 30, 3) := by decide +kernel
theorem dX8_givePier_88 : decode cX8_givePier 88 = .ok (.aload_n 0, 1) := by decide +kernel
theorem dX8_givePier_89 : decode cX8_givePier 89 = .ok (.iload 6, 2) := by decide +kernel
theorem dX8_givePier_91 : decode cX8_givePier 91 = .ok (.bipush 6, 2) := by decide +kernel
theorem dX8_givePier_93 : decode cX8_givePier 93 = .ok (.iconst 1, 1) := by decide +kernel
theorem dX8_givePier_94 : decode cX8_givePier 94 = .ok (.invokevirtual 85, 3) := by decide +kernel
theorem dX8_givePier_97 : decode cX8_givePier 97 = .ok (.aload_n 0, 1) := by decide +kernel
theorem dX8_givePier_98 : decode cX8_givePier 98 = .ok (.iload 6, 2) := by decide +kernel
theorem dX8_givePier_100 : decode cX8_givePier 100 = .ok (.bipush 7, 2) := by decide +kernel
theorem dX8_givePier_102 : decode cX8_givePier 102 = .ok (.iload 4, 2) := by decide +kernel
theorem dX8_givePier_104 : decode cX8_givePier 104 = .ok (.ifCond .eq 7, 3) := by decide +kernel
theorem dX8_givePier_107 : decode cX8_givePier 107 = .ok (.iconst 1, 1) := by decide +kernel
theorem dX8_givePier_108 : decode cX8_givePier 108 = .ok (.goto 4, 3) := by decide +kernel
theorem dX8_givePier_111 : decode cX8_givePier 111 = .ok (.iconst 0, 1) := by decide +kernel
theorem dX8_givePier_112 : decode cX8_givePier 112 = .ok (.invokevirtual 85, 3) := by decide +kernel
theorem dX8_givePier_115 : decode cX8_givePier 115 = .ok (.iinc 6 1, 3) := by decide +kernel
theorem dX8_givePier_118 : decode cX8_givePier 118 = .ok (.goto (-65), 3) := by decide +kernel
theorem dX8_givePier_121 : decode cX8_givePier 121 = .ok (.return_, 1) := by decide +kernel
theorem dX8_goOn_0 : decode cX8_goOn 0 = .ok (.iconst 0, 1) := by decide +kernel
theorem dX8_goOn_1 : decode cX8_goOn 1 = .ok (.istore_n 2, 1) := by decide +kernel
theorem dX8_goOn_2 : decode cX8_goOn 2 = .ok (.iconst 0, 1) := by decide +kernel
theorem dX8_goOn_3 : decode cX8_goOn 3 = .ok (.istore_n 3, 1) := by decide +kernel
theorem dX8_goOn_4 : decode cX8_goOn 4 = .ok (.iconst 0, 1) := by decide +kernel
theorem dX8_goOn_5 : decode cX8_goOn 5 = .ok (.istore 4, 2) := by decide +kernel
theorem dX8_goOn_7 : decode cX8_goOn 7 = .ok (.iconst 0, 1) := by decide +kernel
theorem dX8_goOn_8 : decode cX8_goOn 8 = .ok (.istore 5, 2) := by decide +kernel
theorem dX8_goOn_10 : decode cX8_goOn 10 = .ok (.iload 5, 2) := by decide +kernel
theorem dX8_goOn_12 : decode cX8_goOn 12 = .ok (.iconst 3, 1) := by decide +kernel
theorem dX8_goOn_13 : decode cX8_goOn 13 = .ok (.if_icmp .ge 113, 3) := by decide +kernel
theorem dX8_goOn_16 : decode cX8_goOn 16 = .ok (.aload_n 0, 1) := by decide +kernel
theorem dX8_goOn_17 : decode cX8_goOn 17 = .ok (.getfield 34, 3) := by decide +kernel
theorem dX8_goOn_20 : decode cX8_goOn 20 = .ok (.iload 5, 2) := by decide +kernel
theorem dX8_goOn_22 : decode cX8_goOn 22 = .ok (.iaload, 1) := by decide +kernel
theorem dX8_goOn_23 : decode cX8_goOn 23 = .ok (.iload_n 1, 1) := by decide +kernel
theorem dX8_goOn_24 : decode cX8_goOn 24 = .ok (.if_icmp .ne 17, 3) := by decide +kernel
theorem dX8_goOn_27 : decode cX8_goOn 27 = .ok (.iload 4, 2) := by decide +kernel
theorem dX8_goOn_29 : decode cX8_goOn 29 = .ok (.iconst 1, 1) := by decide +kernel
theorem dX8_goOn_30 : decode cX8_goOn 30 = .ok (.aload_n 0, 1) := by decide +kernel
theorem dX8_goOn_31 : decode cX8_goOn 31 = .ok (.getfield 31, 3) := by decide +kernel
theorem dX8_goOn_34 : decode cX8_goOn 34 = .ok (.iload 5, 2) := by decide +kernel
theorem dX8_goOn_36 : decode cX8_goOn 36 = .ok (.iaload, 1) := by decide +kernel
theorem dX8_goOn_37 : decode cX8_goOn 37 = .ok (.ishl, 1) := by decide +kernel
theorem dX8_goOn_38 : decode cX8_goOn 38 = .ok (.ior, 1) := by decide +kernel
theorem dX8_goOn_39 : decode cX8_goOn 39 = .ok (.istore 4, 2) := by decide +kernel
theorem dX8_goOn_41 : decode cX8_goOn 41 = .ok (.aload_n 0, 1) := by decide +kernel
theorem dX8_goOn_42 : decode cX8_goOn 42 = .ok (.iload 5, 2) := by decide +kernel
theorem dX8_goOn_44 : decode cX8_goOn 44 = .ok (.iload_n 1, 1) := by decide +kernel
theorem dX8_goOn_45 : decode cX8_goOn 45 = .ok (.invokevirtual 96, 3) := by decide +kernel
theorem dX8_goOn_48 : decode cX8_goOn 48 = .ok (.ifCond .ne 6, 3) := by decide +kernel
theorem dX8_goOn_51 : decode cX8_goOn 51 = .ok (.goto 69, 3) := by decide +kernel
theorem dX8_goOn_54 : decode cX8_goOn 54 = .ok (.aload_n 0, 1) := by decide +kernel
theorem dX8_goOn_55 : decode cX8_goOn 55 = .ok (.iload 5, 2) := by decide +kernel
theorem dX8_goOn_57 : decode cX8_goOn 57 = .ok (.aload_n 0, 1) := by decide +kernel
theorem dX8_goOn_58 : decode cX8_goOn 58 = .ok (.getfield 7, 3) := by decide +kernel
theorem dX8_goOn_61 : decode cX8_goOn 61 = .ok (.iconst 1, 1) := by decide +kernel
theorem dX8_goOn_62 : decode cX8_goOn 62 = .ok (.iaload, 1) := by decide +kernel
theorem dX8_goOn_63 : decode cX8_goOn 63 = .ok (.iload_n 1, 1) := by decide +kernel
theorem dX8_goOn_64 : decode cX8_goOn 64 = .ok (.invokevirtual 62, 3) := by decide +kernel
theorem dX8_goOn_67 : decode cX8_goOn 67 = .ok (.ifCond .ne 25, 3) := by decide +kernel
theorem dX8_goOn_70 : decode cX8_goOn 70 = .ok (.aload_n 0, 1) := by decide +kernel
theorem dX8_goOn_71 : decode cX8_goOn 71 = .ok (.iload 5, 2) := by decide +kernel
theorem dX8_goOn_73 : decode cX8_goOn 73 = .ok (.iconst 5, 1) := by decide +kernel
theorem dX8_goOn_74 : decode cX8_goOn 74 = .ok (.iconst 1, 1) := by decide +kernel
theorem dX8_goOn_75 : decode cX8_goOn 75 = .ok (.invokevirtual 85, 3) := by decide +kernel
theorem dX8_goOn_78 : decode cX8_goOn 78 = .ok (.aload_n 0, 1) := by decide +kernel
theorem dX8_goOn_79 : decode cX8_goOn 79 = .ok (.getfield 40, 3) := by decide +kernel
theorem dX8_goOn_82 : decode cX8_goOn 82 = .ok (.iload 5, 2) := by decide +kernel
theorem dX8_goOn_84 : decode cX8_goOn 84 = .ok (.dup2, 1) := by decide +kernel
theorem dX8_goOn_85 : decode cX8_goOn 85 = .ok (.iaload, 1) := by decide +kernel
theorem dX8_goOn_86 : decode cX8_goOn 86 = .ok (.iconst 1, 1) := by decide +kernel
theorem dX8_goOn_87 : decode cX8_goOn 87 = .ok (.iadd, 1) := by decide +kernel
theorem dX8_goOn_88 : decode cX8_goOn 88 = .ok (.iastore, 1) := by decide +kernel
theorem dX8_goOn_89 : decode cX8_goOn 89 = .ok (.goto 31, 3) := by decide +kernel
theorem dX8_goOn_92 : decode cX8_goOn 92 = .ok (.aload_n 0, 1) := by decide +kernel
theorem dX8_goOn_93 : decode cX8_goOn 93 = .ok (.iload 5, 2) := by decide +kernel
theorem dX8_goOn_95 : decode cX8_goOn 95 = .ok (.iconst 0, 1) := by decide +kernel
theorem dX8_goOn_96 : decode cX8_goOn 96 = .ok (.iload_n 1, 1) := by decide +kernel
theorem dX8_goOn_97 : decode cX8_goOn 97 = .ok (.invokevirtual 100, 3) := by decide +kernel
theorem dX8_goOn_100 : decode cX8_goOn 100 = .ok (.ifCond .eq 13, 3) := by decide +kernel
theorem dX8_goOn_103 : decode cX8_goOn 103 = .ok (.iload_n 2, 1) := by decide +kernel
theorem dX8_goOn_104 : decode cX8_goOn 104 = .ok (.iconst 1, 1) := by decide +kernel
theorem dX8_goOn_105 : decode cX8_goOn 105 = .ok (.iload 5, 2) := by decide +kernel
theorem dX8_goOn_107 : decode cX8_goOn 107 = .ok (.ishl, 1) := by decide +kernel
theorem dX8_goOn_108 : decode cX8_goOn 108 = .ok (.ior, 1) := by decide +kernel
theorem dX8_goOn_109 : decode cX8_goOn 109 = .ok (.istore_n 2, 1) := by decide +kernel
theorem dX8_goOn_110 : decode cX8_goOn 110 = .ok (.goto 10, 3) := by decide +kernel
theorem dX8_goOn_113 : decode cX8_goOn 113 = .ok (.iload_n 3, 1) := by decide +kernel
theorem dX8_goOn_114 : decode cX8_goOn 114 = .ok (.iconst 1, 1) := by decide +kernel
theorem dX8_goOn_115 : decode cX8_goOn 115 = .ok (.iload 5, 2) := by decide +kernel
theorem dX8_goOn_117 : decode cX8_goOn 117 = .ok (.ishl, 1) := by decide +kernel
theorem dX8_goOn_118 : decode cX8_goOn 118 = .ok (.ior, 1) := by decide +kernel
theorem dX8_goOn_119 : decode cX8_goOn 119 = .ok (.istore_n 3, 1) := by decide +kernel
theorem dX8_goOn_120 : decode cX8_goOn 120 = .ok (.iinc 5 1, 3) := by decide +kernel
theorem dX8_goOn_123 : decode cX8_goOn 123 = .ok (.goto (-113), 3) := by decide +kernel
theorem dX8_goOn_126 : decode cX8_goOn 126 = .ok (.aload_n 0, 1) := by decide +kernel
theorem dX8_goOn_127 : decode cX8_goOn 127 = .ok (.iload_n 2, 1) := by decide +kernel
theorem dX8_goOn_128 : decode cX8_goOn 128 = .ok (.iload 4, 2) := by decide +kernel
theorem dX8_goOn_130 : decode cX8_goOn 130 = .ok (.iconst 1, 1) := by decide +kernel
theorem dX8_goOn_131 : decode cX8_goOn 131 = .ok (.iand, 1) := by decide +kernel
theorem dX8_goOn_132 : decode cX8_goOn 132 = .ok (.iconst 1, 1) := by decide +kernel
theorem dX8_goOn_133 : decode cX8_goOn 133 = .ok (.if_icmp .ne 7, 3) := by decide +kernel
theorem dX8_goOn_136 : decode cX8_goOn 136 = .ok (.iconst 1, 1) := by decide +kernel
theorem dX8_goOn_137 : decode cX8_goOn 137 = .ok (.goto 4, 3) := by decide +kernel
theorem dX8_goOn_140 : decode cX8_goOn 140 = .ok (.iconst 0, 1) := by decide +kernel
theorem dX8_goOn_141 : decode cX8_goOn 141 = .ok (.iload_n 1, 1) := by decide +kernel
theorem dX8_goOn_142 : decode cX8_goOn 142 = .ok (.invokevirtual 103, 3) := by decide +kernel
theorem dX8_goOn_145 : decode cX8_goOn 145 = .ok (.aload_n 0, 1) := by decide +kernel
theorem dX8_goOn_146 : decode cX8_goOn 146 = .ok (.iload_n 3, 1) := by decide +kernel
theorem dX8_goOn_147 : decode cX8_goOn 147 = .ok (.iload 4, 2) := by decide +kernel
theorem dX8_goOn_149 : decode cX8_goOn 149 = .ok (.iconst 2, 1) := by decide +kernel
theorem dX8_goOn_150 : decode cX8_goOn 150 = .ok (.iand, 1) := by decide +kernel
theorem dX8_goOn_151 : decode cX8_goOn 151 = .ok (.iconst 2, 1) := by decide +kernel
theorem dX8_goOn_152 : decode cX8_goOn 152 = .ok (.if_icmp .ne 7, 3) := by decide +kernel
theorem dX8_goOn_155 : decode cX8_goOn 155 = .ok (.iconst 1, 1) := by decide +kernel
theorem dX8_goOn_156 : decode cX8_goOn 156 = .ok (.goto 4, 3) := by decide +kernel
theorem dX8_goOn_159 : decode cX8_goOn 159 = .ok (.iconst 0, 1) := by decide +kernel
theorem dX8_goOn_160 : decode cX8_goOn 160 = .ok (.iload_n 1, 1) := by decide +kernel
theorem dX8_goOn_161 : decode cX8_goOn 161 = .ok (.invokevirtual 103, 3) := by decide +kernel
theorem dX8_goOn_164 : decode cX8_goOn 164 = .ok (.return_, 1) := by decide +kernel
theorem dX8_learn_0 : decode cX8_learn 0 = .ok (.aload_n 0, 1) := by decide +kernel
theorem dX8_learn_1 : decode cX8_learn 1 = .ok (.getfield 7, 3) := by decide +kernel
theorem dX8_learn_4 : decode cX8_learn 4 = .ok (.iconst 1, 1) := by decide +kernel
theorem dX8_learn_5 : decode cX8_learn 5 = .ok (.iaload, 1) := by decide +kernel
theorem dX8_learn_6 : decode cX8_learn 6 = .ok (.aload_n 0, 1) := by decide +kernel
theorem dX8_learn_7 : decode cX8_learn 7 = .ok (.getfield 7, 3) := by decide +kernel
theorem dX8_learn_10 : decode cX8_learn 10 = .ok (.iconst 3, 1) := by decide +kernel
theorem dX8_learn_11 : decode cX8_learn 11 = .ok (.iaload, 1) := by decide +kernel
theorem dX8_learn_12 : decode cX8_learn 12 = .ok (.iadd, 1) := by decide +kernel
theorem dX8_learn_13 : decode cX8_learn 13 = .ok (.bipush 12, 2) := by decide +kernel
theorem dX8_learn_15 : decode cX8_learn 15 = .ok (.irem, 1) := by decide +kernel
theorem dX8_learn_16 : decode cX8_learn 16 = .ok (.istore_n 1, 1) := by decide +kernel
theorem dX8_learn_17 : decode cX8_learn 17 = .ok (.aload_n 0, 1) := by decide +kernel
theorem dX8_learn_18 : decode cX8_learn 18 = .ok (.iconst 0, 1) := by decide +kernel
theorem dX8_learn_19 : decode cX8_learn 19 = .ok (.putfield 107, 3) := by decide +kernel
theorem dX8_learn_22 : decode cX8_learn 22 = .ok (.iconst 0, 1) := by decide +kernel
theorem dX8_learn_23 : decode cX8_learn 23 = .ok (.istore_n 2, 1) := by decide +kernel
theorem dX8_learn_24 : decode cX8_learn 24 = .ok (.iload_n 2, 1) := by decide +kernel
theorem dX8_learn_25 : decode cX8_learn 25 = .ok (.iconst 3, 1) := by decide +kernel
theorem dX8_learn_26 : decode cX8_learn 26 = .ok (.if_icmp .ge 51, 3) := by decide +kernel
theorem dX8_learn_29 : decode cX8_learn 29 = .ok (.aload_n 0, 1) := by decide +kernel
theorem dX8_learn_30 : decode cX8_learn 30 = .ok (.getfield 40, 3) := by decide +kernel
theorem dX8_learn_33 : decode cX8_learn 33 = .ok (.iload_n 2, 1) := by decide +kernel
theorem dX8_learn_34 : decode cX8_learn 34 = .ok (.iaload, 1) := by decide +kernel
theorem dX8_learn_35 : decode cX8_learn 35 = .ok (.aload_n 0, 1) := by decide +kernel
theorem dX8_learn_36 : decode cX8_learn 36 = .ok (.getfield 7, 3) := by decide +kernel
theorem dX8_learn_39 : decode cX8_learn 39 = .ok (.iconst 4, 1) := by decide +kernel
theorem dX8_learn_40 : decode cX8_learn 40 = .ok (.iaload, 1) := by decide +kernel
theorem dX8_learn_41 : decode cX8_learn 41 = .ok (.if_icmp .lt 30, 3) := by decide +kernel
theorem dX8_learn_44 : decode cX8_learn 44 = .ok (.aload_n 0, 1) := by decide +kernel
theorem dX8_learn_45 : decode cX8_learn 45 = .ok (.iload_n 2, 1) := by decide +kernel
theorem dX8_learn_46 : decode cX8_learn 46 = .ok (.iconst 0, 1) := by decide +kernel
theorem dX8_learn_47 : decode cX8_learn 47 = .ok (.iload_n 1, 1) := by decide +kernel
theorem dX8_learn_48 : decode cX8_learn 48 = .ok (.invokevirtual 43, 3) := by decide +kernel
theorem dX8_learn_51 : decode cX8_learn 51 = .ok (.aload_n 0, 1) := by decide +kernel
theorem dX8_learn_52 : decode cX8_learn 52 = .ok (.iload_n 2, 1) := by decide +kernel
theorem dX8_learn_53 : decode cX8_learn 53 = .ok (.bipush 9, 2) := by decide +kernel
theorem dX8_learn_55 : decode cX8_learn 55 = .ok (.iconst 1, 1) := by decide +kernel
theorem dX8_learn_56 : decode cX8_learn 56 = .ok (.invokevirtual 85, 3) := by decide +kernel
theorem dX8_learn_59 : decode cX8_learn 59 = .ok (.aload_n 0, 1) := by decide +kernel
theorem dX8_learn_60 : decode cX8_learn 60 = .ok (.dup, 1) := by decide +kernel
theorem dX8_learn_61 : decode cX8_learn 61 = .ok (.getfield 107, 3) := by decide +kernel
theorem dX8_learn_64 : decode cX8_learn 64 = .ok (.iconst 1, 1) := by decide +kernel
theorem dX8_learn_65 : decode cX8_learn 65 = .ok (.iload_n 2, 1) := by decide +kernel
theorem dX8_learn_66 : decode cX8_learn 66 = .ok (.ishl, 1) := by decide +kernel
theorem dX8_learn_67 : decode cX8_learn 67 = .ok (.ior, 1) := by decide +kernel
theorem dX8_learn_68 : decode cX8_learn 68 = .ok (.putfield 107, 3) := by decide +kernel
theorem dX8_learn_71 : decode cX8_learn 71 = .ok (.iinc 2 1, 3) := by decide +kernel
theorem dX8_learn_74 : decode cX8_learn 74 = .ok (.goto (-50), 3) := by decide +kernel
theorem dX8_learn_77 : decode cX8_learn 77 = .ok (.aload_n 0, 1) := by decide +kernel
theorem dX8_learn_78 : decode cX8_learn 78 = .ok (.getfield 7, 3) := by decide +kernel
theorem dX8_learn_81 : decode cX8_learn 81 = .ok (.iconst 1, 1) := by decide +kernel
theorem dX8_learn_82 : decode cX8_learn 82 = .ok (.iload_n 1, 1) := by decide +kernel
theorem dX8_learn_83 : decode cX8_learn 83 = .ok (.iastore, 1) := by decide +kernel
theorem dX8_learn_84 : decode cX8_learn 84 = .ok (.return_, 1) := by decide +kernel
theorem dX8_sailDay_0 : decode cX8_sailDay 0 = .ok (.aload_n 0, 1) := by decide +kernel
theorem dX8_sailDay_1 : decode cX8_sailDay 1 = .ok (.invokevirtual 110, 3) := by decide +kernel
theorem dX8_sailDay_4 : decode cX8_sailDay 4 = .ok (.iconst 0, 1) := by decide +kernel
theorem dX8_sailDay_5 : decode cX8_sailDay 5 = .ok (.istore_n 1, 1) := by decide +kernel
theorem dX8_sailDay_6 : decode cX8_sailDay 6 = .ok (.iload_n 1, 1) := by decide +kernel
theorem dX8_sailDay_7 : decode cX8_sailDay 7 = .ok (.iconst 3, 1) := by decide +kernel
theorem dX8_sailDay_8 : decode cX8_sailDay 8 = .ok (.if_icmp .ge 42, 3) := by decide +kernel
theorem dX8_sailDay_11 : decode cX8_sailDay 11 = .ok (.aload_n 0, 1) := by decide +kernel
theorem dX8_sailDay_12 : decode cX8_sailDay 12 = .ok (.getfield 31, 3) := by decide +kernel
theorem dX8_sailDay_15 : decode cX8_sailDay 15 = .ok (.iload_n 1, 1) := by decide +kernel
theorem dX8_sailDay_16 : decode cX8_sailDay 16 = .ok (.aload_n 0, 1) := by decide +kernel
theorem dX8_sailDay_17 : decode cX8_sailDay 17 = .ok (.iload_n 1, 1) := by decide +kernel
theorem dX8_sailDay_18 : decode cX8_sailDay 18 = .ok (.iconst 3, 1) := by decide +kernel
theorem dX8_sailDay_19 : decode cX8_sailDay 19 = .ok (.invokevirtual 55, 3) := by decide +kernel
theorem dX8_sailDay_22 : decode cX8_sailDay 22 = .ok (.iastore, 1) := by decide +kernel
theorem dX8_sailDay_23 : decode cX8_sailDay 23 = .ok (.aload_n 0, 1) := by decide +kernel
theorem dX8_sailDay_24 : decode cX8_sailDay 24 = .ok (.getfield 34, 3) := by decide +kernel
theorem dX8_sailDay_27 : decode cX8_sailDay 27 = .ok (.iload_n 1, 1) := by decide +kernel
theorem dX8_sailDay_28 : decode cX8_sailDay 28 = .ok (.iconst (-1), 1) := by decide +kernel
theorem dX8_sailDay_29 : decode cX8_sailDay 29 = .ok (.iastore, 1) := by decide +kernel
theorem dX8_sailDay_30 : decode cX8_sailDay 30 = .ok (.aload_n 0, 1) := by decide +kernel
theorem dX8_sailDay_31 : decode cX8_sailDay 31 = .ok (.getfield 37, 3) := by decide +kernel
theorem dX8_sailDay_34 : decode cX8_sailDay 34 = .ok (.iload_n 1, 1) := by decide +kernel
theorem dX8_sailDay_35 : decode cX8_sailDay 35 = .ok (.iconst 0, 1) := by decide +kernel
theorem dX8_sailDay_36 : decode cX8_sailDay 36 = .ok (.iastore, 1) := by decide +kernel
theorem dX8_sailDay_37 : decode cX8_sailDay 37 = .ok (.aload_n 0, 1) := by decide +kernel
theorem dX8_sailDay_38 : decode cX8_sailDay 38 = .ok (.getfield 40, 3) := by decide +kernel
theorem dX8_sailDay_41 : decode cX8_sailDay 41 = .ok (.iload_n 1, 1) := by decide +kernel
theorem dX8_sailDay_42 : decode cX8_sailDay 42 = .ok (.iconst 0, 1) := by decide +kernel
theorem dX8_sailDay_43 : decode cX8_sailDay 43 = .ok (.iastore, 1) := by decide +kernel
theorem dX8_sailDay_44 : decode cX8_sailDay 44 = .ok (.iinc 1 1, 3) := by decide +kernel
theorem dX8_sailDay_47 : decode cX8_sailDay 47 = .ok (.goto (-41), 3) := by decide +kernel
theorem dX8_sailDay_50 : decode cX8_sailDay 50 = .ok (.iconst 0, 1) := by decide +kernel
theorem dX8_sailDay_51 : decode cX8_sailDay 51 = .ok (.istore_n 1, 1) := by decide +kernel
theorem dX8_sailDay_52 : decode cX8_sailDay 52 = .ok (.iload_n 1, 1) := by decide +kernel
theorem dX8_sailDay_53 : decode cX8_sailDay 53 = .ok (.bipush 24, 2) := by decide +kernel
theorem dX8_sailDay_55 : decode cX8_sailDay 55 = .ok (.if_icmp .ge 14, 3) := by decide +kernel
theorem dX8_sailDay_58 : decode cX8_sailDay 58 = .ok (.aload_n 0, 1) := by decide +kernel
theorem dX8_sailDay_59 : decode cX8_sailDay 59 = .ok (.iload_n 1, 1) := by decide +kernel
theorem dX8_sailDay_60 : decode cX8_sailDay 60 = .ok (.invokevirtual 113, 3) := by decide +kernel
theorem dX8_sailDay_63 : decode cX8_sailDay 63 = .ok (.iinc 1 1, 3) := by decide +kernel
theorem dX8_sailDay_66 : decode cX8_sailDay 66 = .ok (.goto (-14), 3) := by decide +kernel
theorem dX8_sailDay_69 : decode cX8_sailDay 69 = .ok (.iconst 0, 1) := by decide +kernel
theorem dX8_sailDay_70 : decode cX8_sailDay 70 = .ok (.istore_n 1, 1) := by decide +kernel
theorem dX8_sailDay_71 : decode cX8_sailDay 71 = .ok (.iload_n 1, 1) := by decide +kernel
theorem dX8_sailDay_72 : decode cX8_sailDay 72 = .ok (.iconst 3, 1) := by decide +kernel
theorem dX8_sailDay_73 : decode cX8_sailDay 73 = .ok (.if_icmp .ge 29, 3) := by decide +kernel
theorem dX8_sailDay_76 : decode cX8_sailDay 76 = .ok (.aload_n 0, 1) := by decide +kernel
theorem dX8_sailDay_77 : decode cX8_sailDay 77 = .ok (.iload_n 1, 1) := by decide +kernel
theorem dX8_sailDay_78 : decode cX8_sailDay 78 = .ok (.bipush 8, 2) := by decide +kernel
theorem dX8_sailDay_80 : decode cX8_sailDay 80 = .ok (.aload_n 0, 1) := by decide +kernel
theorem dX8_sailDay_81 : decode cX8_sailDay 81 = .ok (.getfield 28, 3) := by decide +kernel
theorem dX8_sailDay_84 : decode cX8_sailDay 84 = .ok (.iload_n 1, 1) := by decide +kernel
theorem dX8_sailDay_85 : decode cX8_sailDay 85 = .ok (.iaload, 1) := by decide +kernel
theorem dX8_sailDay_86 : decode cX8_sailDay 86 = .ok (.aload_n 0, 1) := by decide +kernel
theorem dX8_sailDay_87 : decode cX8_sailDay 87 = .ok (.getfield 37, 3) := by decide +kernel
theorem dX8_sailDay_90 : decode cX8_sailDay 90 = .ok (.iload_n 1, 1) := by decide +kernel
theorem dX8_sailDay_91 : decode cX8_sailDay 91 = .ok (.iaload, 1) := by decide +kernel
theorem dX8_sailDay_92 : decode cX8_sailDay 92 = .ok (.isub, 1) := by decide +kernel
theorem dX8_sailDay_93 : decode cX8_sailDay 93 = .ok (.invokevirtual 85, 3) := by decide +kernel
theorem dX8_sailDay_96 : decode cX8_sailDay 96 = .ok (.iinc 1 1, 3) := by decide +kernel
theorem dX8_sailDay_99 : decode cX8_sailDay 99 = .ok (.goto (-28), 3) := by decide +kernel
theorem dX8_sailDay_102 : decode cX8_sailDay 102 = .ok (.aload_n 0, 1) := by decide +kernel
theorem dX8_sailDay_103 : decode cX8_sailDay 103 = .ok (.invokevirtual 116, 3) := by decide +kernel
theorem dX8_sailDay_106 : decode cX8_sailDay 106 = .ok (.aload_n 0, 1) := by decide +kernel
theorem dX8_sailDay_107 : decode cX8_sailDay 107 = .ok (.getfield 7, 3) := by decide +kernel
theorem dX8_sailDay_110 : decode cX8_sailDay 110 = .ok (.iconst 0, 1) := by decide +kernel
theorem dX8_sailDay_111 : decode cX8_sailDay 111 = .ok (.dup2, 1) := by decide +kernel
theorem dX8_sailDay_112 : decode cX8_sailDay 112 = .ok (.iaload, 1) := by decide +kernel
theorem dX8_sailDay_113 : decode cX8_sailDay 113 = .ok (.iconst 1, 1) := by decide +kernel
theorem dX8_sailDay_114 : decode cX8_sailDay 114 = .ok (.iadd, 1) := by decide +kernel
theorem dX8_sailDay_115 : decode cX8_sailDay 115 = .ok (.iastore, 1) := by decide +kernel
theorem dX8_sailDay_116 : decode cX8_sailDay 116 = .ok (.return_, 1) := by decide +kernel
theorem dX8_least_0 : decode cX8_least 0 = .ok (.iload_n 0, 1) := by decide +kernel
theorem dX8_least_1 : decode cX8_least 1 = .ok (.iconst 1, 1) := by decide +kernel
theorem dX8_least_2 : decode cX8_least 2 = .ok (.if_icmp .ne 7, 3) := by decide +kernel
theorem dX8_least_5 : decode cX8_least 5 = .ok (.iconst 1, 1) := by decide +kernel
theorem dX8_least_6 : decode cX8_least 6 = .ok (.goto 4, 3) := by decide +kernel
theorem dX8_least_9 : decode cX8_least 9 = .ok (.iconst 0, 1) := by decide +kernel
theorem dX8_least_10 : decode cX8_least 10 = .ok (.ireturn, 1) := by decide +kernel
theorem dX8_most_0 : decode cX8_most 0 = .ok (.iload_n 0, 1) := by decide +kernel
theorem dX8_most_1 : decode cX8_most 1 = .ok (.ifCond .ne 8, 3) := by decide +kernel
theorem dX8_most_4 : decode cX8_most 4 = .ok (.bipush 11, 2) := by decide +kernel
theorem dX8_most_6 : decode cX8_most 6 = .ok (.goto 24, 3) := by decide +kernel
theorem dX8_most_9 : decode cX8_most 9 = .ok (.iload_n 0, 1) := by decide +kernel
theorem dX8_most_10 : decode cX8_most 10 = .ok (.iconst 1, 1) := by decide +kernel
theorem dX8_most_11 : decode cX8_most 11 = .ok (.if_icmp .ne 8, 3) := by decide +kernel
theorem dX8_most_14 : decode cX8_most 14 = .ok (.bipush 6, 2) := by decide +kernel
theorem dX8_most_16 : decode cX8_most 16 = .ok (.goto 14, 3) := by decide +kernel
theorem dX8_most_19 : decode cX8_most 19 = .ok (.iload_n 0, 1) := by decide +kernel
theorem dX8_most_20 : decode cX8_most 20 = .ok (.iconst 2, 1) := by decide +kernel
theorem dX8_most_21 : decode cX8_most 21 = .ok (.if_icmp .ne 8, 3) := by decide +kernel
theorem dX8_most_24 : decode cX8_most 24 = .ok (.bipush 23, 2) := by decide +kernel
theorem dX8_most_26 : decode cX8_most 26 = .ok (.goto 4, 3) := by decide +kernel
theorem dX8_most_29 : decode cX8_most 29 = .ok (.iconst 1, 1) := by decide +kernel
theorem dX8_most_30 : decode cX8_most 30 = .ok (.ireturn, 1) := by decide +kernel
theorem dX8_captain_0 : decode cX8_captain 0 = .ok (.iload_n 1, 1) := by decide +kernel
theorem dX8_captain_1 : decode cX8_captain 1 = .ok (.invokestatic 119, 3) := by decide +kernel
theorem dX8_captain_4 : decode cX8_captain 4 = .ok (.ifCond .ne 5, 3) := by decide +kernel
theorem dX8_captain_7 : decode cX8_captain 7 = .ok (.iconst (-1), 1) := by decide +kernel
theorem dX8_captain_8 : decode cX8_captain 8 = .ok (.ireturn, 1) := by decide +kernel
theorem dX8_captain_9 : decode cX8_captain 9 = .ok (.iload_n 2, 1) := by decide +kernel
theorem dX8_captain_10 : decode cX8_captain 10 = .ok (.iconst 0, 1) := by decide +kernel
theorem dX8_captain_11 : decode cX8_captain 11 = .ok (.iconst 3, 1) := by decide +kernel
theorem dX8_captain_12 : decode cX8_captain 12 = .ok (.invokestatic 51, 3) := by decide +kernel
theorem dX8_captain_15 : decode cX8_captain 15 = .ok (.ifCond .eq 18, 3) := by decide +kernel
theorem dX8_captain_18 : decode cX8_captain 18 = .ok (.iload_n 3, 1) := by decide +kernel
theorem dX8_captain_19 : decode cX8_captain 19 = .ok (.iload_n 2, 1) := by decide +kernel
theorem dX8_captain_20 : decode cX8_captain 20 = .ok (.invokestatic 123, 3) := by decide +kernel
theorem dX8_captain_23 : decode cX8_captain 23 = .ok (.iload_n 2, 1) := by decide +kernel
theorem dX8_captain_24 : decode cX8_captain 24 = .ok (.invokestatic 126, 3) := by decide +kernel
theorem dX8_captain_27 : decode cX8_captain 27 = .ok (.invokestatic 51, 3) := by decide +kernel
theorem dX8_captain_30 : decode cX8_captain 30 = .ok (.ifCond .ne 6, 3) := by decide +kernel
theorem dX8_captain_33 : decode cX8_captain 33 = .ok (.bipush (-2), 2) := by decide +kernel
theorem dX8_captain_35 : decode cX8_captain 35 = .ok (.ireturn, 1) := by decide +kernel
theorem dX8_captain_36 : decode cX8_captain 36 = .ok (.aload_n 0, 1) := by decide +kernel
theorem dX8_captain_37 : decode cX8_captain 37 = .ok (.iload_n 1, 1) := by decide +kernel
theorem dX8_captain_38 : decode cX8_captain 38 = .ok (.iload_n 2, 1) := by decide +kernel
theorem dX8_captain_39 : decode cX8_captain 39 = .ok (.invokevirtual 55, 3) := by decide +kernel
theorem dX8_captain_42 : decode cX8_captain 42 = .ok (.istore 4, 2) := by decide +kernel
theorem dX8_captain_44 : decode cX8_captain 44 = .ok (.iload 4, 2) := by decide +kernel
theorem dX8_captain_46 : decode cX8_captain 46 = .ok (.iload_n 3, 1) := by decide +kernel
theorem dX8_captain_47 : decode cX8_captain 47 = .ok (.if_icmp .ne 6, 3) := by decide +kernel
theorem dX8_captain_50 : decode cX8_captain 50 = .ok (.bipush (-5), 2) := by decide +kernel
theorem dX8_captain_52 : decode cX8_captain 52 = .ok (.ireturn, 1) := by decide +kernel
theorem dX8_captain_53 : decode cX8_captain 53 = .ok (.aload_n 0, 1) := by decide +kernel
theorem dX8_captain_54 : decode cX8_captain 54 = .ok (.invokevirtual 129, 3) := by decide +kernel
theorem dX8_captain_57 : decode cX8_captain 57 = .ok (.aload_n 0, 1) := by decide +kernel
theorem dX8_captain_58 : decode cX8_captain 58 = .ok (.iload_n 1, 1) := by decide +kernel
theorem dX8_captain_59 : decode cX8_captain 59 = .ok (.iload_n 2, 1) := by decide +kernel
theorem dX8_captain_60 : decode cX8_captain 60 = .ok (.iload_n 3, 1) := by decide +kernel
theorem dX8_captain_61 : decode cX8_captain 61 = .ok (.invokevirtual 43, 3) := by decide +kernel
theorem dX8_captain_64 : decode cX8_captain 64 = .ok (.iload 4, 2) := by decide +kernel
theorem dX8_captain_66 : decode cX8_captain 66 = .ok (.ireturn, 1) := by decide +kernel
theorem dX8_change_0 : decode cX8_change 0 = .ok (.aload_n 0, 1) := by decide +kernel
theorem dX8_change_1 : decode cX8_change 1 = .ok (.getfield 7, 3) := by decide +kernel
theorem dX8_change_4 : decode cX8_change 4 = .ok (.iload_n 1, 1) := by decide +kernel
theorem dX8_change_5 : decode cX8_change 5 = .ok (.iaload, 1) := by decide +kernel
theorem dX8_change_6 : decode cX8_change 6 = .ok (.istore_n 3, 1) := by decide +kernel
theorem dX8_change_7 : decode cX8_change 7 = .ok (.iload_n 3, 1) := by decide +kernel
theorem dX8_change_8 : decode cX8_change 8 = .ok (.iload_n 2, 1) := by decide +kernel
theorem dX8_change_9 : decode cX8_change 9 = .ok (.if_icmp .ne 6, 3) := by decide +kernel
theorem dX8_change_12 : decode cX8_change 12 = .ok (.bipush (-5), 2) := by decide +kernel
theorem dX8_change_14 : decode cX8_change 14 = .ok (.ireturn, 1) := by decide +kernel
theorem dX8_change_15 : decode cX8_change 15 = .ok (.aload_n 0, 1) := by decide +kernel
theorem dX8_change_16 : decode cX8_change 16 = .ok (.invokevirtual 129, 3) := by decide +kernel
theorem dX8_change_19 : decode cX8_change 19 = .ok (.aload_n 0, 1) := by decide +kernel
theorem dX8_change_20 : decode cX8_change 20 = .ok (.getfield 7, 3) := by decide +kernel
theorem dX8_change_23 : decode cX8_change 23 = .ok (.iload_n 1, 1) := by decide +kernel
theorem dX8_change_24 : decode cX8_change 24 = .ok (.iload_n 2, 1) := by decide +kernel
theorem dX8_change_25 : decode cX8_change 25 = .ok (.iastore, 1) := by decide +kernel
theorem dX8_change_26 : decode cX8_change 26 = .ok (.iload_n 3, 1) := by decide +kernel
theorem dX8_change_27 : decode cX8_change 27 = .ok (.ireturn, 1) := by decide +kernel
theorem dX8_truth_0 : decode cX8_truth 0 = .ok (.iload_n 1, 1) := by decide +kernel
theorem dX8_truth_1 : decode cX8_truth 1 = .ok (.iconst 0, 1) := by decide +kernel
theorem dX8_truth_2 : decode cX8_truth 2 = .ok (.bipush 11, 2) := by decide +kernel
theorem dX8_truth_4 : decode cX8_truth 4 = .ok (.invokestatic 51, 3) := by decide +kernel
theorem dX8_truth_7 : decode cX8_truth 7 = .ok (.ifCond .eq 12, 3) := by decide +kernel
theorem dX8_truth_10 : decode cX8_truth 10 = .ok (.aload_n 0, 1) := by decide +kernel
theorem dX8_truth_11 : decode cX8_truth 11 = .ok (.iconst 1, 1) := by decide +kernel
theorem dX8_truth_12 : decode cX8_truth 12 = .ok (.iload_n 1, 1) := by decide +kernel
theorem dX8_truth_13 : decode cX8_truth 13 = .ok (.invokevirtual 132, 3) := by decide +kernel
theorem dX8_truth_16 : decode cX8_truth 16 = .ok (.goto 5, 3) := by decide +kernel
theorem dX8_truth_19 : decode cX8_truth 19 = .ok (.bipush (-2), 2) := by decide +kernel
theorem dX8_truth_21 : decode cX8_truth 21 = .ok (.ireturn, 1) := by decide +kernel
theorem dX8_set_0 : decode cX8_set 0 = .ok (.iload_n 1, 1) := by decide +kernel
theorem dX8_set_1 : decode cX8_set 1 = .ok (.iconst 0, 1) := by decide +kernel
theorem dX8_set_2 : decode cX8_set 2 = .ok (.iconst 1, 1) := by decide +kernel
theorem dX8_set_3 : decode cX8_set 3 = .ok (.invokestatic 51, 3) := by decide +kernel
theorem dX8_set_6 : decode cX8_set 6 = .ok (.ifCond .eq 32, 3) := by decide +kernel
theorem dX8_set_9 : decode cX8_set 9 = .ok (.iload_n 2, 1) := by decide +kernel
theorem dX8_set_10 : decode cX8_set 10 = .ok (.iload_n 1, 1) := by decide +kernel
theorem dX8_set_11 : decode cX8_set 11 = .ok (.iload_n 1, 1) := by decide +kernel
theorem dX8_set_12 : decode cX8_set 12 = .ok (.ifCond .ne 7, 3) := by decide +kernel
theorem dX8_set_15 : decode cX8_set 15 = .ok (.iconst 1, 1) := by decide +kernel
theorem dX8_set_16 : decode cX8_set 16 = .ok (.goto 5, 3) := by decide +kernel
theorem dX8_set_19 : decode cX8_set 19 = .ok (.bipush 9, 2) := by decide +kernel
theorem dX8_set_21 : decode cX8_set 21 = .ok (.invokestatic 51, 3) := by decide +kernel
theorem dX8_set_24 : decode cX8_set 24 = .ok (.ifCond .eq 14, 3) := by decide +kernel
theorem dX8_set_27 : decode cX8_set 27 = .ok (.aload_n 0, 1) := by decide +kernel
theorem dX8_set_28 : decode cX8_set 28 = .ok (.iconst 3, 1) := by decide +kernel
theorem dX8_set_29 : decode cX8_set 29 = .ok (.iload_n 1, 1) := by decide +kernel
theorem dX8_set_30 : decode cX8_set 30 = .ok (.iadd, 1) := by decide +kernel
theorem dX8_set_31 : decode cX8_set 31 = .ok (.iload_n 2, 1) := by decide +kernel
theorem dX8_set_32 : decode cX8_set 32 = .ok (.invokevirtual 132, 3) := by decide +kernel
theorem dX8_set_35 : decode cX8_set 35 = .ok (.goto 5, 3) := by decide +kernel
theorem dX8_set_38 : decode cX8_set 38 = .ok (.bipush (-2), 2) := by decide +kernel
theorem dX8_set_40 : decode cX8_set 40 = .ok (.ireturn, 1) := by decide +kernel
theorem dX8_lot_0 : decode cX8_lot 0 = .ok (.iload_n 1, 1) := by decide +kernel
theorem dX8_lot_1 : decode cX8_lot 1 = .ok (.iconst 0, 1) := by decide +kernel
theorem dX8_lot_2 : decode cX8_lot 2 = .ok (.ldc 135, 2) := by decide +kernel
theorem dX8_lot_4 : decode cX8_lot 4 = .ok (.invokestatic 51, 3) := by decide +kernel
theorem dX8_lot_7 : decode cX8_lot 7 = .ok (.ifCond .eq 12, 3) := by decide +kernel
theorem dX8_lot_10 : decode cX8_lot 10 = .ok (.aload_n 0, 1) := by decide +kernel
theorem dX8_lot_11 : decode cX8_lot 11 = .ok (.iconst 2, 1) := by decide +kernel
theorem dX8_lot_12 : decode cX8_lot 12 = .ok (.iload_n 1, 1) := by decide +kernel
theorem dX8_lot_13 : decode cX8_lot 13 = .ok (.invokevirtual 132, 3) := by decide +kernel
theorem dX8_lot_16 : decode cX8_lot 16 = .ok (.goto 5, 3) := by decide +kernel
theorem dX8_lot_19 : decode cX8_lot 19 = .ok (.bipush (-2), 2) := by decide +kernel
theorem dX8_lot_21 : decode cX8_lot 21 = .ok (.ireturn, 1) := by decide +kernel
theorem dX8_sail_0 : decode cX8_sail 0 = .ok (.iload_n 1, 1) := by decide +kernel
theorem dX8_sail_1 : decode cX8_sail 1 = .ok (.iconst 1, 1) := by decide +kernel
theorem dX8_sail_2 : decode cX8_sail 2 = .ok (.bipush 30, 2) := by decide +kernel
theorem dX8_sail_4 : decode cX8_sail 4 = .ok (.invokestatic 51, 3) := by decide +kernel
theorem dX8_sail_7 : decode cX8_sail 7 = .ok (.ifCond .ne 6, 3) := by decide +kernel
theorem dX8_sail_10 : decode cX8_sail 10 = .ok (.bipush (-2), 2) := by decide +kernel
theorem dX8_sail_12 : decode cX8_sail 12 = .ok (.ireturn, 1) := by decide +kernel
theorem dX8_sail_13 : decode cX8_sail 13 = .ok (.aload_n 0, 1) := by decide +kernel
theorem dX8_sail_14 : decode cX8_sail 14 = .ok (.getfield 7, 3) := by decide +kernel
theorem dX8_sail_17 : decode cX8_sail 17 = .ok (.iconst 0, 1) := by decide +kernel
theorem dX8_sail_18 : decode cX8_sail 18 = .ok (.iaload, 1) := by decide +kernel
theorem dX8_sail_19 : decode cX8_sail 19 = .ok (.iload_n 1, 1) := by decide +kernel
theorem dX8_sail_20 : decode cX8_sail 20 = .ok (.iadd, 1) := by decide +kernel
theorem dX8_sail_21 : decode cX8_sail 21 = .ok (.sipush 9999, 3) := by decide +kernel
theorem dX8_sail_24 : decode cX8_sail 24 = .ok (.if_icmp .le 6, 3) := by decide +kernel
theorem dX8_sail_27 : decode cX8_sail 27 = .ok (.bipush (-3), 2) := by decide +kernel
theorem dX8_sail_29 : decode cX8_sail 29 = .ok (.ireturn, 1) := by decide +kernel
theorem dX8_sail_30 : decode cX8_sail 30 = .ok (.aload_n 0, 1) := by decide +kernel
theorem dX8_sail_31 : decode cX8_sail 31 = .ok (.invokevirtual 129, 3) := by decide +kernel
theorem dX8_sail_34 : decode cX8_sail 34 = .ok (.aload_n 0, 1) := by decide +kernel
theorem dX8_sail_35 : decode cX8_sail 35 = .ok (.iconst 4, 1) := by decide +kernel
theorem dX8_sail_36 : decode cX8_sail 36 = .ok (.invokevirtual 136, 3) := by decide +kernel
theorem dX8_sail_39 : decode cX8_sail 39 = .ok (.istore_n 2, 1) := by decide +kernel
theorem dX8_sail_40 : decode cX8_sail 40 = .ok (.iconst 0, 1) := by decide +kernel
theorem dX8_sail_41 : decode cX8_sail 41 = .ok (.istore_n 3, 1) := by decide +kernel
theorem dX8_sail_42 : decode cX8_sail 42 = .ok (.iload_n 3, 1) := by decide +kernel
theorem dX8_sail_43 : decode cX8_sail 43 = .ok (.iload_n 1, 1) := by decide +kernel
theorem dX8_sail_44 : decode cX8_sail 44 = .ok (.if_icmp .ge 13, 3) := by decide +kernel
theorem dX8_sail_47 : decode cX8_sail 47 = .ok (.aload_n 0, 1) := by decide +kernel
theorem dX8_sail_48 : decode cX8_sail 48 = .ok (.invokevirtual 139, 3) := by decide +kernel
theorem dX8_sail_51 : decode cX8_sail 51 = .ok (.iinc 3 1, 3) := by decide +kernel
theorem dX8_sail_54 : decode cX8_sail 54 = .ok (.goto (-12), 3) := by decide +kernel
theorem dX8_sail_57 : decode cX8_sail 57 = .ok (.aload_n 0, 1) := by decide +kernel
theorem dX8_sail_58 : decode cX8_sail 58 = .ok (.iconst 4, 1) := by decide +kernel
theorem dX8_sail_59 : decode cX8_sail 59 = .ok (.invokevirtual 136, 3) := by decide +kernel
theorem dX8_sail_62 : decode cX8_sail 62 = .ok (.iload_n 2, 1) := by decide +kernel
theorem dX8_sail_63 : decode cX8_sail 63 = .ok (.isub, 1) := by decide +kernel
theorem dX8_sail_64 : decode cX8_sail 64 = .ok (.ireturn, 1) := by decide +kernel
theorem dX8_type_0 : decode cX8_type 0 = .ok (.aload_n 0, 1) := by decide +kernel
theorem dX8_type_1 : decode cX8_type 1 = .ok (.getfield 142, 3) := by decide +kernel
theorem dX8_type_4 : decode cX8_type 4 = .ok (.bipush 60, 2) := by decide +kernel
theorem dX8_type_6 : decode cX8_type 6 = .ok (.if_icmp .ne 6, 3) := by decide +kernel
theorem dX8_type_9 : decode cX8_type 9 = .ok (.bipush (-3), 2) := by decide +kernel
theorem dX8_type_11 : decode cX8_type 11 = .ok (.ireturn, 1) := by decide +kernel
theorem dX8_type_12 : decode cX8_type 12 = .ok (.aload_n 0, 1) := by decide +kernel
theorem dX8_type_13 : decode cX8_type 13 = .ok (.getfield 22, 3) := by decide +kernel
theorem dX8_type_16 : decode cX8_type 16 = .ok (.aload_n 0, 1) := by decide +kernel
theorem dX8_type_17 : decode cX8_type 17 = .ok (.getfield 142, 3) := by decide +kernel
theorem dX8_type_20 : decode cX8_type 20 = .ok (.iload_n 1, 1) := by decide +kernel
theorem dX8_type_21 : decode cX8_type 21 = .ok (.iastore, 1) := by decide +kernel
theorem dX8_type_22 : decode cX8_type 22 = .ok (.aload_n 0, 1) := by decide +kernel
theorem dX8_type_23 : decode cX8_type 23 = .ok (.dup, 1) := by decide +kernel
theorem dX8_type_24 : decode cX8_type 24 = .ok (.getfield 142, 3) := by decide +kernel
theorem dX8_type_27 : decode cX8_type 27 = .ok (.iconst 1, 1) := by decide +kernel
theorem dX8_type_28 : decode cX8_type 28 = .ok (.iadd, 1) := by decide +kernel
theorem dX8_type_29 : decode cX8_type 29 = .ok (.putfield 142, 3) := by decide +kernel
theorem dX8_type_32 : decode cX8_type 32 = .ok (.aload_n 0, 1) := by decide +kernel
theorem dX8_type_33 : decode cX8_type 33 = .ok (.getfield 142, 3) := by decide +kernel
theorem dX8_type_36 : decode cX8_type 36 = .ok (.ireturn, 1) := by decide +kernel
theorem dX8_clearText_0 : decode cX8_clearText 0 = .ok (.aload_n 0, 1) := by decide +kernel
theorem dX8_clearText_1 : decode cX8_clearText 1 = .ok (.getfield 142, 3) := by decide +kernel
theorem dX8_clearText_4 : decode cX8_clearText 4 = .ok (.istore_n 1, 1) := by decide +kernel
theorem dX8_clearText_5 : decode cX8_clearText 5 = .ok (.aload_n 0, 1) := by decide +kernel
theorem dX8_clearText_6 : decode cX8_clearText 6 = .ok (.iconst 0, 1) := by decide +kernel
theorem dX8_clearText_7 : decode cX8_clearText 7 = .ok (.putfield 142, 3) := by decide +kernel
theorem dX8_clearText_10 : decode cX8_clearText 10 = .ok (.iload_n 1, 1) := by decide +kernel
theorem dX8_clearText_11 : decode cX8_clearText 11 = .ok (.ireturn, 1) := by decide +kernel
theorem dX8_isNext_0 : decode cX8_isNext 0 = .ok (.aload_n 0, 1) := by decide +kernel
theorem dX8_isNext_1 : decode cX8_isNext 1 = .ok (.getfield 145, 3) := by decide +kernel
theorem dX8_isNext_4 : decode cX8_isNext 4 = .ok (.aload_n 0, 1) := by decide +kernel
theorem dX8_isNext_5 : decode cX8_isNext 5 = .ok (.getfield 142, 3) := by decide +kernel
theorem dX8_isNext_8 : decode cX8_isNext 8 = .ok (.if_icmp .ge 24, 3) := by decide +kernel
theorem dX8_isNext_11 : decode cX8_isNext 11 = .ok (.aload_n 0, 1) := by decide +kernel
theorem dX8_isNext_12 : decode cX8_isNext 12 = .ok (.getfield 22, 3) := by decide +kernel
theorem dX8_isNext_15 : decode cX8_isNext 15 = .ok (.aload_n 0, 1) := by decide +kernel
theorem dX8_isNext_16 : decode cX8_isNext 16 = .ok (.getfield 145, 3) := by decide +kernel
theorem dX8_isNext_19 : decode cX8_isNext 19 = .ok (.iaload, 1) := by decide +kernel
theorem dX8_isNext_20 : decode cX8_isNext 20 = .ok (.iload_n 1, 1) := by decide +kernel
theorem dX8_isNext_21 : decode cX8_isNext 21 = .ok (.iload_n 2, 1) := by decide +kernel
theorem dX8_isNext_22 : decode cX8_isNext 22 = .ok (.invokestatic 51, 3) := by decide +kernel
theorem dX8_isNext_25 : decode cX8_isNext 25 = .ok (.ifCond .eq 7, 3) := by decide +kernel
theorem dX8_isNext_28 : decode cX8_isNext 28 = .ok (.iconst 1, 1) := by decide +kernel
theorem dX8_isNext_29 : decode cX8_isNext 29 = .ok (.goto 4, 3) := by decide +kernel
theorem dX8_isNext_32 : decode cX8_isNext 32 = .ok (.iconst 0, 1) := by decide +kernel
theorem dX8_isNext_33 : decode cX8_isNext 33 = .ok (.ireturn, 1) := by decide +kernel
theorem dX8_sign_0 : decode cX8_sign 0 = .ok (.aload_n 0, 1) := by decide +kernel
theorem dX8_sign_1 : decode cX8_sign 1 = .ok (.iload_n 1, 1) := by decide +kernel
theorem dX8_sign_2 : decode cX8_sign 2 = .ok (.iload_n 1, 1) := by decide +kernel
theorem dX8_sign_3 : decode cX8_sign 3 = .ok (.invokevirtual 148, 3) := by decide +kernel
theorem dX8_sign_6 : decode cX8_sign 6 = .ok (.istore_n 2, 1) := by decide +kernel
theorem dX8_sign_7 : decode cX8_sign 7 = .ok (.aload_n 0, 1) := by decide +kernel
theorem dX8_sign_8 : decode cX8_sign 8 = .ok (.dup, 1) := by decide +kernel
theorem dX8_sign_9 : decode cX8_sign 9 = .ok (.getfield 145, 3) := by decide +kernel
theorem dX8_sign_12 : decode cX8_sign 12 = .ok (.iload_n 2, 1) := by decide +kernel
theorem dX8_sign_13 : decode cX8_sign 13 = .ok (.ifCond .eq 7, 3) := by decide +kernel
theorem dX8_sign_16 : decode cX8_sign 16 = .ok (.iconst 1, 1) := by decide +kernel
theorem dX8_sign_17 : decode cX8_sign 17 = .ok (.goto 4, 3) := by decide +kernel
theorem dX8_sign_20 : decode cX8_sign 20 = .ok (.iconst 0, 1) := by decide +kernel
theorem dX8_sign_21 : decode cX8_sign 21 = .ok (.iadd, 1) := by decide +kernel
theorem dX8_sign_22 : decode cX8_sign 22 = .ok (.putfield 145, 3) := by decide +kernel
theorem dX8_sign_25 : decode cX8_sign 25 = .ok (.iload_n 2, 1) := by decide +kernel
theorem dX8_sign_26 : decode cX8_sign 26 = .ok (.ireturn, 1) := by decide +kernel
theorem dX8_number_0 : decode cX8_number 0 = .ok (.aload_n 0, 1) := by decide +kernel
theorem dX8_number_1 : decode cX8_number 1 = .ok (.bipush 48, 2) := by decide +kernel
theorem dX8_number_3 : decode cX8_number 3 = .ok (.iload_n 1, 1) := by decide +kernel
theorem dX8_number_4 : decode cX8_number 4 = .ok (.iadd, 1) := by decide +kernel
theorem dX8_number_5 : decode cX8_number 5 = .ok (.iload_n 2, 1) := by decide +kernel
theorem dX8_number_6 : decode cX8_number 6 = .ok (.bipush 9, 2) := by decide +kernel
theorem dX8_number_8 : decode cX8_number 8 = .ok (.if_icmp .ge 10, 3) := by decide +kernel
theorem dX8_number_11 : decode cX8_number 11 = .ok (.bipush 48, 2) := by decide +kernel
theorem dX8_number_13 : decode cX8_number 13 = .ok (.iload_n 2, 1) := by decide +kernel
theorem dX8_number_14 : decode cX8_number 14 = .ok (.iadd, 1) := by decide +kernel
theorem dX8_number_15 : decode cX8_number 15 = .ok (.goto 5, 3) := by decide +kernel
theorem dX8_number_18 : decode cX8_number 18 = .ok (.bipush 57, 2) := by decide +kernel
theorem dX8_number_20 : decode cX8_number 20 = .ok (.invokevirtual 148, 3) := by decide +kernel
theorem dX8_number_23 : decode cX8_number 23 = .ok (.ifCond .ne 6, 3) := by decide +kernel
theorem dX8_number_26 : decode cX8_number 26 = .ok (.bipush (-5), 2) := by decide +kernel
theorem dX8_number_28 : decode cX8_number 28 = .ok (.ireturn, 1) := by decide +kernel
theorem dX8_number_29 : decode cX8_number 29 = .ok (.aload_n 0, 1) := by decide +kernel
theorem dX8_number_30 : decode cX8_number 30 = .ok (.getfield 22, 3) := by decide +kernel
theorem dX8_number_33 : decode cX8_number 33 = .ok (.aload_n 0, 1) := by decide +kernel
theorem dX8_number_34 : decode cX8_number 34 = .ok (.getfield 145, 3) := by decide +kernel
theorem dX8_number_37 : decode cX8_number 37 = .ok (.iaload, 1) := by decide +kernel
theorem dX8_number_38 : decode cX8_number 38 = .ok (.bipush 48, 2) := by decide +kernel
theorem dX8_number_40 : decode cX8_number 40 = .ok (.isub, 1) := by decide +kernel
theorem dX8_number_41 : decode cX8_number 41 = .ok (.istore_n 3, 1) := by decide +kernel
theorem dX8_number_42 : decode cX8_number 42 = .ok (.aload_n 0, 1) := by decide +kernel
theorem dX8_number_43 : decode cX8_number 43 = .ok (.dup, 1) := by decide +kernel
theorem dX8_number_44 : decode cX8_number 44 = .ok (.getfield 145, 3) := by decide +kernel
theorem dX8_number_47 : decode cX8_number 47 = .ok (.iconst 1, 1) := by decide +kernel
theorem dX8_number_48 : decode cX8_number 48 = .ok (.iadd, 1) := by decide +kernel
theorem dX8_number_49 : decode cX8_number 49 = .ok (.putfield 145, 3) := by decide +kernel
theorem dX8_number_52 : decode cX8_number 52 = .ok (.iload_n 3, 1) := by decide +kernel
theorem dX8_number_53 : decode cX8_number 53 = .ok (.ifCond .le 66, 3) := by decide +kernel
theorem dX8_number_56 : decode cX8_number 56 = .ok (.aload_n 0, 1) := by decide +kernel
theorem dX8_number_57 : decode cX8_number 57 = .ok (.bipush 48, 2) := by decide +kernel
theorem dX8_number_59 : decode cX8_number 59 = .ok (.bipush 57, 2) := by decide +kernel
theorem dX8_number_61 : decode cX8_number 61 = .ok (.invokevirtual 148, 3) := by decide +kernel
theorem dX8_number_64 : decode cX8_number 64 = .ok (.ifCond .eq 55, 3) := by decide +kernel
theorem dX8_number_67 : decode cX8_number 67 = .ok (.bipush 10, 2) := by decide +kernel
theorem dX8_number_69 : decode cX8_number 69 = .ok (.iload_n 3, 1) := by decide +kernel
theorem dX8_number_70 : decode cX8_number 70 = .ok (.imul, 1) := by decide +kernel
theorem dX8_number_71 : decode cX8_number 71 = .ok (.aload_n 0, 1) := by decide +kernel
theorem dX8_number_72 : decode cX8_number 72 = .ok (.getfield 22, 3) := by decide +kernel
theorem dX8_number_75 : decode cX8_number 75 = .ok (.aload_n 0, 1) := by decide +kernel
theorem dX8_number_76 : decode cX8_number 76 = .ok (.getfield 145, 3) := by decide +kernel
theorem dX8_number_79 : decode cX8_number 79 = .ok (.iaload, 1) := by decide +kernel
theorem dX8_number_80 : decode cX8_number 80 = .ok (.iadd, 1) := by decide +kernel
theorem dX8_number_81 : decode cX8_number 81 = .ok (.bipush 48, 2) := by decide +kernel
theorem dX8_number_83 : decode cX8_number 83 = .ok (.isub, 1) := by decide +kernel
theorem dX8_number_84 : decode cX8_number 84 = .ok (.iload_n 2, 1) := by decide +kernel
theorem dX8_number_85 : decode cX8_number 85 = .ok (.if_icmp .gt 34, 3) := by decide +kernel
theorem dX8_number_88 : decode cX8_number 88 = .ok (.bipush 10, 2) := by decide +kernel
theorem dX8_number_90 : decode cX8_number 90 = .ok (.iload_n 3, 1) := by decide +kernel
theorem dX8_number_91 : decode cX8_number 91 = .ok (.imul, 1) := by decide +kernel
theorem dX8_number_92 : decode cX8_number 92 = .ok (.aload_n 0, 1) := by decide +kernel
theorem dX8_number_93 : decode cX8_number 93 = .ok (.getfield 22, 3) := by decide +kernel
theorem dX8_number_96 : decode cX8_number 96 = .ok (.aload_n 0, 1) := by decide +kernel
theorem dX8_number_97 : decode cX8_number 97 = .ok (.getfield 145, 3) := by decide +kernel
theorem dX8_number_100 : decode cX8_number 100 = .ok (.iaload, 1) := by decide +kernel
theorem dX8_number_101 : decode cX8_number 101 = .ok (.iadd, 1) := by decide +kernel
theorem dX8_number_102 : decode cX8_number 102 = .ok (.bipush 48, 2) := by decide +kernel
theorem dX8_number_104 : decode cX8_number 104 = .ok (.isub, 1) := by decide +kernel
theorem dX8_number_105 : decode cX8_number 105 = .ok (.istore_n 3, 1) := by decide +kernel
theorem dX8_number_106 : decode cX8_number 106 = .ok (.aload_n 0, 1) := by decide +kernel
theorem dX8_number_107 : decode cX8_number 107 = .ok (.dup, 1) := by decide +kernel
theorem dX8_number_108 : decode cX8_number 108 = .ok (.getfield 145, 3) := by decide +kernel
theorem dX8_number_111 : decode cX8_number 111 = .ok (.iconst 1, 1) := by decide +kernel
theorem dX8_number_112 : decode cX8_number 112 = .ok (.iadd, 1) := by decide +kernel
theorem dX8_number_113 : decode cX8_number 113 = .ok (.putfield 145, 3) := by decide +kernel
theorem dX8_number_116 : decode cX8_number 116 = .ok (.goto (-64), 3) := by decide +kernel
theorem dX8_number_119 : decode cX8_number 119 = .ok (.iload_n 3, 1) := by decide +kernel
theorem dX8_number_120 : decode cX8_number 120 = .ok (.ireturn, 1) := by decide +kernel
theorem dX8_aboutOf_0 : decode cX8_aboutOf 0 = .ok (.aload_n 0, 1) := by decide +kernel
theorem dX8_aboutOf_1 : decode cX8_aboutOf 1 = .ok (.bipush 112, 2) := by decide +kernel
theorem dX8_aboutOf_3 : decode cX8_aboutOf 3 = .ok (.invokevirtual 151, 3) := by decide +kernel
theorem dX8_aboutOf_6 : decode cX8_aboutOf 6 = .ok (.ifCond .eq 7, 3) := by decide +kernel
theorem dX8_aboutOf_9 : decode cX8_aboutOf 9 = .ok (.iconst 0, 1) := by decide +kernel
theorem dX8_aboutOf_10 : decode cX8_aboutOf 10 = .ok (.goto 44, 3) := by decide +kernel
theorem dX8_aboutOf_13 : decode cX8_aboutOf 13 = .ok (.aload_n 0, 1) := by decide +kernel
theorem dX8_aboutOf_14 : decode cX8_aboutOf 14 = .ok (.bipush 100, 2) := by decide +kernel
theorem dX8_aboutOf_16 : decode cX8_aboutOf 16 = .ok (.invokevirtual 151, 3) := by decide +kernel
theorem dX8_aboutOf_19 : decode cX8_aboutOf 19 = .ok (.ifCond .eq 7, 3) := by decide +kernel
theorem dX8_aboutOf_22 : decode cX8_aboutOf 22 = .ok (.iconst 1, 1) := by decide +kernel
theorem dX8_aboutOf_23 : decode cX8_aboutOf 23 = .ok (.goto 31, 3) := by decide +kernel
theorem dX8_aboutOf_26 : decode cX8_aboutOf 26 = .ok (.aload_n 0, 1) := by decide +kernel
theorem dX8_aboutOf_27 : decode cX8_aboutOf 27 = .ok (.bipush 102, 2) := by decide +kernel
theorem dX8_aboutOf_29 : decode cX8_aboutOf 29 = .ok (.invokevirtual 151, 3) := by decide +kernel
theorem dX8_aboutOf_32 : decode cX8_aboutOf 32 = .ok (.ifCond .eq 7, 3) := by decide +kernel
theorem dX8_aboutOf_35 : decode cX8_aboutOf 35 = .ok (.iconst 2, 1) := by decide +kernel
theorem dX8_aboutOf_36 : decode cX8_aboutOf 36 = .ok (.goto 18, 3) := by decide +kernel
theorem dX8_aboutOf_39 : decode cX8_aboutOf 39 = .ok (.aload_n 0, 1) := by decide +kernel
theorem dX8_aboutOf_40 : decode cX8_aboutOf 40 = .ok (.bipush 104, 2) := by decide +kernel
theorem dX8_aboutOf_42 : decode cX8_aboutOf 42 = .ok (.invokevirtual 151, 3) := by decide +kernel
theorem dX8_aboutOf_45 : decode cX8_aboutOf 45 = .ok (.ifCond .eq 7, 3) := by decide +kernel
theorem dX8_aboutOf_48 : decode cX8_aboutOf 48 = .ok (.iconst 3, 1) := by decide +kernel
theorem dX8_aboutOf_49 : decode cX8_aboutOf 49 = .ok (.goto 5, 3) := by decide +kernel
theorem dX8_aboutOf_52 : decode cX8_aboutOf 52 = .ok (.bipush (-5), 2) := by decide +kernel
theorem dX8_aboutOf_54 : decode cX8_aboutOf 54 = .ok (.ireturn, 1) := by decide +kernel
theorem dX8_readPart_0 : decode cX8_readPart 0 = .ok (.aload_n 0, 1) := by decide +kernel
theorem dX8_readPart_1 : decode cX8_readPart 1 = .ok (.iconst 0, 1) := by decide +kernel
theorem dX8_readPart_2 : decode cX8_readPart 2 = .ok (.iconst 2, 1) := by decide +kernel
theorem dX8_readPart_3 : decode cX8_readPart 3 = .ok (.invokevirtual 154, 3) := by decide +kernel
theorem dX8_readPart_6 : decode cX8_readPart 6 = .ok (.istore_n 2, 1) := by decide +kernel
theorem dX8_readPart_7 : decode cX8_readPart 7 = .ok (.iload_n 2, 1) := by decide +kernel
theorem dX8_readPart_8 : decode cX8_readPart 8 = .ok (.bipush (-5), 2) := by decide +kernel
theorem dX8_readPart_10 : decode cX8_readPart 10 = .ok (.if_icmp .eq 12, 3) := by decide +kernel
theorem dX8_readPart_13 : decode cX8_readPart 13 = .ok (.aload_n 0, 1) := by decide +kernel
theorem dX8_readPart_14 : decode cX8_readPart 14 = .ok (.bipush 58, 2) := by decide +kernel
theorem dX8_readPart_16 : decode cX8_readPart 16 = .ok (.invokevirtual 151, 3) := by decide +kernel
theorem dX8_readPart_19 : decode cX8_readPart 19 = .ok (.ifCond .ne 5, 3) := by decide +kernel
theorem dX8_readPart_22 : decode cX8_readPart 22 = .ok (.iconst 0, 1) := by decide +kernel
theorem dX8_readPart_23 : decode cX8_readPart 23 = .ok (.ireturn, 1) := by decide +kernel
theorem dX8_readPart_24 : decode cX8_readPart 24 = .ok (.aload_n 0, 1) := by decide +kernel
theorem dX8_readPart_25 : decode cX8_readPart 25 = .ok (.invokevirtual 157, 3) := by decide +kernel
theorem dX8_readPart_28 : decode cX8_readPart 28 = .ok (.istore_n 3, 1) := by decide +kernel
theorem dX8_readPart_29 : decode cX8_readPart 29 = .ok (.iload_n 3, 1) := by decide +kernel
theorem dX8_readPart_30 : decode cX8_readPart 30 = .ok (.bipush (-5), 2) := by decide +kernel
theorem dX8_readPart_32 : decode cX8_readPart 32 = .ok (.if_icmp .ne 5, 3) := by decide +kernel
theorem dX8_readPart_35 : decode cX8_readPart 35 = .ok (.iconst 0, 1) := by decide +kernel
theorem dX8_readPart_36 : decode cX8_readPart 36 = .ok (.ireturn, 1) := by decide +kernel
theorem dX8_readPart_37 : decode cX8_readPart 37 = .ok (.iload_n 3, 1) := by decide +kernel
theorem dX8_readPart_38 : decode cX8_readPart 38 = .ok (.bipush (-5), 2) := by decide +kernel
theorem dX8_readPart_40 : decode cX8_readPart 40 = .ok (.if_icmp .eq 46, 3) := by decide +kernel
theorem dX8_readPart_43 : decode cX8_readPart 43 = .ok (.aload_n 0, 1) := by decide +kernel
theorem dX8_readPart_44 : decode cX8_readPart 44 = .ok (.iload_n 3, 1) := by decide +kernel
theorem dX8_readPart_45 : decode cX8_readPart 45 = .ok (.invokestatic 123, 3) := by decide +kernel
theorem dX8_readPart_48 : decode cX8_readPart 48 = .ok (.iload_n 3, 1) := by decide +kernel
theorem dX8_readPart_49 : decode cX8_readPart 49 = .ok (.invokestatic 126, 3) := by decide +kernel
theorem dX8_readPart_52 : decode cX8_readPart 52 = .ok (.invokevirtual 154, 3) := by decide +kernel
theorem dX8_readPart_55 : decode cX8_readPart 55 = .ok (.istore 4, 2) := by decide +kernel
theorem dX8_readPart_57 : decode cX8_readPart 57 = .ok (.iload 4, 2) := by decide +kernel
theorem dX8_readPart_59 : decode cX8_readPart 59 = .ok (.bipush (-5), 2) := by decide +kernel
theorem dX8_readPart_61 : decode cX8_readPart 61 = .ok (.if_icmp .ne 5, 3) := by decide +kernel
theorem dX8_readPart_64 : decode cX8_readPart 64 = .ok (.iconst 0, 1) := by decide +kernel
theorem dX8_readPart_65 : decode cX8_readPart 65 = .ok (.ireturn, 1) := by decide +kernel
theorem dX8_readPart_66 : decode cX8_readPart 66 = .ok (.iload_n 1, 1) := by decide +kernel
theorem dX8_readPart_67 : decode cX8_readPart 67 = .ok (.ifCond .eq 11, 3) := by decide +kernel
theorem dX8_readPart_70 : decode cX8_readPart 70 = .ok (.aload_n 0, 1) := by decide +kernel
theorem dX8_readPart_71 : decode cX8_readPart 71 = .ok (.iload_n 2, 1) := by decide +kernel
theorem dX8_readPart_72 : decode cX8_readPart 72 = .ok (.iload_n 3, 1) := by decide +kernel
theorem dX8_readPart_73 : decode cX8_readPart 73 = .ok (.iload 4, 2) := by decide +kernel
theorem dX8_readPart_75 : decode cX8_readPart 75 = .ok (.invokevirtual 43, 3) := by decide +kernel
theorem dX8_readPart_78 : decode cX8_readPart 78 = .ok (.aload_n 0, 1) := by decide +kernel
theorem dX8_readPart_79 : decode cX8_readPart 79 = .ok (.invokevirtual 157, 3) := by decide +kernel
theorem dX8_readPart_82 : decode cX8_readPart 82 = .ok (.istore_n 3, 1) := by decide +kernel
theorem dX8_readPart_83 : decode cX8_readPart 83 = .ok (.goto (-46), 3) := by decide +kernel
theorem dX8_readPart_86 : decode cX8_readPart 86 = .ok (.iconst 1, 1) := by decide +kernel
theorem dX8_readPart_87 : decode cX8_readPart 87 = .ok (.ireturn, 1) := by decide +kernel
theorem dX8_readAll_0 : decode cX8_readAll 0 = .ok (.aload_n 0, 1) := by decide +kernel
theorem dX8_readAll_1 : decode cX8_readAll 1 = .ok (.iconst 0, 1) := by decide +kernel
theorem dX8_readAll_2 : decode cX8_readAll 2 = .ok (.putfield 145, 3) := by decide +kernel
theorem dX8_readAll_5 : decode cX8_readAll 5 = .ok (.iconst 0, 1) := by decide +kernel
theorem dX8_readAll_6 : decode cX8_readAll 6 = .ok (.istore_n 1, 1) := by decide +kernel
theorem dX8_readAll_7 : decode cX8_readAll 7 = .ok (.iconst 1, 1) := by decide +kernel
theorem dX8_readAll_8 : decode cX8_readAll 8 = .ok (.istore_n 2, 1) := by decide +kernel
theorem dX8_readAll_9 : decode cX8_readAll 9 = .ok (.iload_n 2, 1) := by decide +kernel
theorem dX8_readAll_10 : decode cX8_readAll 10 = .ok (.ifCond .eq 32, 3) := by decide +kernel
theorem dX8_readAll_13 : decode cX8_readAll 13 = .ok (.aload_n 0, 1) := by decide +kernel
theorem dX8_readAll_14 : decode cX8_readAll 14 = .ok (.iconst 0, 1) := by decide +kernel
theorem dX8_readAll_15 : decode cX8_readAll 15 = .ok (.invokevirtual 161, 3) := by decide +kernel
theorem dX8_readAll_18 : decode cX8_readAll 18 = .ok (.ifCond .ne 11, 3) := by decide +kernel
theorem dX8_readAll_21 : decode cX8_readAll 21 = .ok (.bipush (-100), 2) := by decide +kernel
theorem dX8_readAll_23 : decode cX8_readAll 23 = .ok (.aload_n 0, 1) := by decide +kernel
theorem dX8_readAll_24 : decode cX8_readAll 24 = .ok (.getfield 145, 3) := by decide +kernel
theorem dX8_readAll_27 : decode cX8_readAll 27 = .ok (.isub, 1) := by decide +kernel
theorem dX8_readAll_28 : decode cX8_readAll 28 = .ok (.ireturn, 1) := by decide +kernel
theorem dX8_readAll_29 : decode cX8_readAll 29 = .ok (.iinc 1 1, 3) := by decide +kernel
theorem dX8_readAll_32 : decode cX8_readAll 32 = .ok (.aload_n 0, 1) := by decide +kernel
theorem dX8_readAll_33 : decode cX8_readAll 33 = .ok (.bipush 59, 2) := by decide +kernel
theorem dX8_readAll_35 : decode cX8_readAll 35 = .ok (.invokevirtual 151, 3) := by decide +kernel
theorem dX8_readAll_38 : decode cX8_readAll 38 = .ok (.istore_n 2, 1) := by decide +kernel
theorem dX8_readAll_39 : decode cX8_readAll 39 = .ok (.goto (-30), 3) := by decide +kernel
theorem dX8_readAll_42 : decode cX8_readAll 42 = .ok (.aload_n 0, 1) := by decide +kernel
theorem dX8_readAll_43 : decode cX8_readAll 43 = .ok (.getfield 145, 3) := by decide +kernel
theorem dX8_readAll_46 : decode cX8_readAll 46 = .ok (.aload_n 0, 1) := by decide +kernel
theorem dX8_readAll_47 : decode cX8_readAll 47 = .ok (.getfield 142, 3) := by decide +kernel
theorem dX8_readAll_50 : decode cX8_readAll 50 = .ok (.if_icmp .ge 13, 3) := by decide +kernel
theorem dX8_readAll_53 : decode cX8_readAll 53 = .ok (.bipush (-100), 2) := by decide +kernel
theorem dX8_readAll_55 : decode cX8_readAll 55 = .ok (.aload_n 0, 1) := by decide +kernel
theorem dX8_readAll_56 : decode cX8_readAll 56 = .ok (.getfield 145, 3) := by decide +kernel
theorem dX8_readAll_59 : decode cX8_readAll 59 = .ok (.isub, 1) := by decide +kernel
theorem dX8_readAll_60 : decode cX8_readAll 60 = .ok (.goto 4, 3) := by decide +kernel
theorem dX8_readAll_63 : decode cX8_readAll 63 = .ok (.iload_n 1, 1) := by decide +kernel
theorem dX8_readAll_64 : decode cX8_readAll 64 = .ok (.ireturn, 1) := by decide +kernel
theorem dX8_fault_0 : decode cX8_fault 0 = .ok (.aload_n 0, 1) := by decide +kernel
theorem dX8_fault_1 : decode cX8_fault 1 = .ok (.invokevirtual 165, 3) := by decide +kernel
theorem dX8_fault_4 : decode cX8_fault 4 = .ok (.istore_n 1, 1) := by decide +kernel
theorem dX8_fault_5 : decode cX8_fault 5 = .ok (.iload_n 1, 1) := by decide +kernel
theorem dX8_fault_6 : decode cX8_fault 6 = .ok (.ifCond .ge 10, 3) := by decide +kernel
theorem dX8_fault_9 : decode cX8_fault 9 = .ok (.bipush (-100), 2) := by decide +kernel
theorem dX8_fault_11 : decode cX8_fault 11 = .ok (.iload_n 1, 1) := by decide +kernel
theorem dX8_fault_12 : decode cX8_fault 12 = .ok (.isub, 1) := by decide +kernel
theorem dX8_fault_13 : decode cX8_fault 13 = .ok (.goto 5, 3) := by decide +kernel
theorem dX8_fault_16 : decode cX8_fault 16 = .ok (.bipush (-5), 2) := by decide +kernel
theorem dX8_fault_18 : decode cX8_fault 18 = .ok (.ireturn, 1) := by decide +kernel
theorem dX8_captains_0 : decode cX8_captains 0 = .ok (.aload_n 0, 1) := by decide +kernel
theorem dX8_captains_1 : decode cX8_captains 1 = .ok (.invokevirtual 165, 3) := by decide +kernel
theorem dX8_captains_4 : decode cX8_captains 4 = .ok (.istore_n 1, 1) := by decide +kernel
theorem dX8_captains_5 : decode cX8_captains 5 = .ok (.iload_n 1, 1) := by decide +kernel
theorem dX8_captains_6 : decode cX8_captains 6 = .ok (.ifCond .ge 5, 3) := by decide +kernel
theorem dX8_captains_9 : decode cX8_captains 9 = .ok (.iload_n 1, 1) := by decide +kernel
theorem dX8_captains_10 : decode cX8_captains 10 = .ok (.ireturn, 1) := by decide +kernel
theorem dX8_captains_11 : decode cX8_captains 11 = .ok (.aload_n 0, 1) := by decide +kernel
theorem dX8_captains_12 : decode cX8_captains 12 = .ok (.invokevirtual 129, 3) := by decide +kernel
theorem dX8_captains_15 : decode cX8_captains 15 = .ok (.aload_n 0, 1) := by decide +kernel
theorem dX8_captains_16 : decode cX8_captains 16 = .ok (.iconst 0, 1) := by decide +kernel
theorem dX8_captains_17 : decode cX8_captains 17 = .ok (.putfield 145, 3) := by decide +kernel
theorem dX8_captains_20 : decode cX8_captains 20 = .ok (.iconst 0, 1) := by decide +kernel
theorem dX8_captains_21 : decode cX8_captains 21 = .ok (.istore_n 2, 1) := by decide +kernel
theorem dX8_captains_22 : decode cX8_captains 22 = .ok (.iload_n 2, 1) := by decide +kernel
theorem dX8_captains_23 : decode cX8_captains 23 = .ok (.iload_n 1, 1) := by decide +kernel
theorem dX8_captains_24 : decode cX8_captains 24 = .ok (.if_icmp .ge 25, 3) := by decide +kernel
theorem dX8_captains_27 : decode cX8_captains 27 = .ok (.aload_n 0, 1) := by decide +kernel
theorem dX8_captains_28 : decode cX8_captains 28 = .ok (.iconst 1, 1) := by decide +kernel
theorem dX8_captains_29 : decode cX8_captains 29 = .ok (.invokevirtual 161, 3) := by decide +kernel
theorem dX8_captains_32 : decode cX8_captains 32 = .ok (.pop, 1) := by decide +kernel
theorem dX8_captains_33 : decode cX8_captains 33 = .ok (.aload_n 0, 1) := by decide +kernel
theorem dX8_captains_34 : decode cX8_captains 34 = .ok (.dup, 1) := by decide +kernel
theorem dX8_captains_35 : decode cX8_captains 35 = .ok (.getfield 145, 3) := by decide +kernel
theorem dX8_captains_38 : decode cX8_captains 38 = .ok (.iconst 1, 1) := by decide +kernel
theorem dX8_captains_39 : decode cX8_captains 39 = .ok (.iadd, 1) := by decide +kernel
theorem dX8_captains_40 : decode cX8_captains 40 = .ok (.putfield 145, 3) := by decide +kernel
theorem dX8_captains_43 : decode cX8_captains 43 = .ok (.iinc 2 1, 3) := by decide +kernel
theorem dX8_captains_46 : decode cX8_captains 46 = .ok (.goto (-24), 3) := by decide +kernel
theorem dX8_captains_49 : decode cX8_captains 49 = .ok (.iload_n 1, 1) := by decide +kernel
theorem dX8_captains_50 : decode cX8_captains 50 = .ok (.ireturn, 1) := by decide +kernel
theorem dX8_undo_0 : decode cX8_undo 0 = .ok (.aload_n 0, 1) := by decide +kernel
theorem dX8_undo_1 : decode cX8_undo 1 = .ok (.getfield 47, 3) := by decide +kernel
theorem dX8_undo_4 : decode cX8_undo 4 = .ok (.ifCond .ne 6, 3) := by decide +kernel
theorem dX8_undo_7 : decode cX8_undo 7 = .ok (.bipush (-5), 2) := by decide +kernel
theorem dX8_undo_9 : decode cX8_undo 9 = .ok (.ireturn, 1) := by decide +kernel
theorem dX8_undo_10 : decode cX8_undo 10 = .ok (.aload_n 0, 1) := by decide +kernel
theorem dX8_undo_11 : decode cX8_undo 11 = .ok (.dup, 1) := by decide +kernel
theorem dX8_undo_12 : decode cX8_undo 12 = .ok (.getfield 47, 3) := by decide +kernel
theorem dX8_undo_15 : decode cX8_undo 15 = .ok (.iconst 1, 1) := by decide +kernel
theorem dX8_undo_16 : decode cX8_undo 16 = .ok (.isub, 1) := by decide +kernel
theorem dX8_undo_17 : decode cX8_undo 17 = .ok (.putfield 47, 3) := by decide +kernel
theorem dX8_undo_20 : decode cX8_undo 20 = .ok (.iconst 0, 1) := by decide +kernel
theorem dX8_undo_21 : decode cX8_undo 21 = .ok (.istore_n 1, 1) := by decide +kernel
theorem dX8_undo_22 : decode cX8_undo 22 = .ok (.iload_n 1, 1) := by decide +kernel
theorem dX8_undo_23 : decode cX8_undo 23 = .ok (.bipush 36, 2) := by decide +kernel
theorem dX8_undo_25 : decode cX8_undo 25 = .ok (.if_icmp .ge 29, 3) := by decide +kernel
theorem dX8_undo_28 : decode cX8_undo 28 = .ok (.aload_n 0, 1) := by decide +kernel
theorem dX8_undo_29 : decode cX8_undo 29 = .ok (.getfield 7, 3) := by decide +kernel
theorem dX8_undo_32 : decode cX8_undo 32 = .ok (.iload_n 1, 1) := by decide +kernel
theorem dX8_undo_33 : decode cX8_undo 33 = .ok (.aload_n 0, 1) := by decide +kernel
theorem dX8_undo_34 : decode cX8_undo 34 = .ok (.getfield 19, 3) := by decide +kernel
theorem dX8_undo_37 : decode cX8_undo 37 = .ok (.bipush 36, 2) := by decide +kernel
theorem dX8_undo_39 : decode cX8_undo 39 = .ok (.aload_n 0, 1) := by decide +kernel
theorem dX8_undo_40 : decode cX8_undo 40 = .ok (.getfield 47, 3) := by decide +kernel
theorem dX8_undo_43 : decode cX8_undo 43 = .ok (.imul, 1) := by decide +kernel
theorem dX8_undo_44 : decode cX8_undo 44 = .ok (.iload_n 1, 1) := by decide +kernel
theorem dX8_undo_45 : decode cX8_undo 45 = .ok (.iadd, 1) := by decide +kernel
theorem dX8_undo_46 : decode cX8_undo 46 = .ok (.iaload, 1) := by decide +kernel
theorem dX8_undo_47 : decode cX8_undo 47 = .ok (.iastore, 1) := by decide +kernel
theorem dX8_undo_48 : decode cX8_undo 48 = .ok (.iinc 1 1, 3) := by decide +kernel
theorem dX8_undo_51 : decode cX8_undo 51 = .ok (.goto (-29), 3) := by decide +kernel
theorem dX8_undo_54 : decode cX8_undo 54 = .ok (.aload_n 0, 1) := by decide +kernel
theorem dX8_undo_55 : decode cX8_undo 55 = .ok (.getfield 47, 3) := by decide +kernel
theorem dX8_undo_58 : decode cX8_undo 58 = .ok (.ireturn, 1) := by decide +kernel
theorem dX8_keep_0 : decode cX8_keep 0 = .ok (.iconst 0, 1) := by decide +kernel
theorem dX8_keep_1 : decode cX8_keep 1 = .ok (.istore_n 1, 1) := by decide +kernel
theorem dX8_keep_2 : decode cX8_keep 2 = .ok (.iload_n 1, 1) := by decide +kernel
theorem dX8_keep_3 : decode cX8_keep 3 = .ok (.bipush 36, 2) := by decide +kernel
theorem dX8_keep_5 : decode cX8_keep 5 = .ok (.if_icmp .ge 21, 3) := by decide +kernel
theorem dX8_keep_8 : decode cX8_keep 8 = .ok (.aload_n 0, 1) := by decide +kernel
theorem dX8_keep_9 : decode cX8_keep 9 = .ok (.getfield 13, 3) := by decide +kernel
theorem dX8_keep_12 : decode cX8_keep 12 = .ok (.iload_n 1, 1) := by decide +kernel
theorem dX8_keep_13 : decode cX8_keep 13 = .ok (.aload_n 0, 1) := by decide +kernel
theorem dX8_keep_14 : decode cX8_keep 14 = .ok (.getfield 7, 3) := by decide +kernel
theorem dX8_keep_17 : decode cX8_keep 17 = .ok (.iload_n 1, 1) := by decide +kernel
theorem dX8_keep_18 : decode cX8_keep 18 = .ok (.iaload, 1) := by decide +kernel
theorem dX8_keep_19 : decode cX8_keep 19 = .ok (.iastore, 1) := by decide +kernel
theorem dX8_keep_20 : decode cX8_keep 20 = .ok (.iinc 1 1, 3) := by decide +kernel
theorem dX8_keep_23 : decode cX8_keep 23 = .ok (.goto (-21), 3) := by decide +kernel
theorem dX8_keep_26 : decode cX8_keep 26 = .ok (.aload_n 0, 1) := by decide +kernel
theorem dX8_keep_27 : decode cX8_keep 27 = .ok (.iconst 1, 1) := by decide +kernel
theorem dX8_keep_28 : decode cX8_keep 28 = .ok (.putfield 168, 3) := by decide +kernel
theorem dX8_keep_31 : decode cX8_keep 31 = .ok (.aload_n 0, 1) := by decide +kernel
theorem dX8_keep_32 : decode cX8_keep 32 = .ok (.getfield 7, 3) := by decide +kernel
theorem dX8_keep_35 : decode cX8_keep 35 = .ok (.iconst 0, 1) := by decide +kernel
theorem dX8_keep_36 : decode cX8_keep 36 = .ok (.iaload, 1) := by decide +kernel
theorem dX8_keep_37 : decode cX8_keep 37 = .ok (.ireturn, 1) := by decide +kernel
theorem dX8_restore_0 : decode cX8_restore 0 = .ok (.aload_n 0, 1) := by decide +kernel
theorem dX8_restore_1 : decode cX8_restore 1 = .ok (.getfield 168, 3) := by decide +kernel
theorem dX8_restore_4 : decode cX8_restore 4 = .ok (.ifCond .ne 6, 3) := by decide +kernel
theorem dX8_restore_7 : decode cX8_restore 7 = .ok (.bipush (-5), 2) := by decide +kernel
theorem dX8_restore_9 : decode cX8_restore 9 = .ok (.ireturn, 1) := by decide +kernel
theorem dX8_restore_10 : decode cX8_restore 10 = .ok (.aload_n 0, 1) := by decide +kernel
theorem dX8_restore_11 : decode cX8_restore 11 = .ok (.invokevirtual 129, 3) := by decide +kernel
theorem dX8_restore_14 : decode cX8_restore 14 = .ok (.iconst 0, 1) := by decide +kernel
theorem dX8_restore_15 : decode cX8_restore 15 = .ok (.istore_n 1, 1) := by decide +kernel
theorem dX8_restore_16 : decode cX8_restore 16 = .ok (.iload_n 1, 1) := by decide +kernel
theorem dX8_restore_17 : decode cX8_restore 17 = .ok (.bipush 36, 2) := by decide +kernel
theorem dX8_restore_19 : decode cX8_restore 19 = .ok (.if_icmp .ge 21, 3) := by decide +kernel
theorem dX8_restore_22 : decode cX8_restore 22 = .ok (.aload_n 0, 1) := by decide +kernel
theorem dX8_restore_23 : decode cX8_restore 23 = .ok (.getfield 7, 3) := by decide +kernel
theorem dX8_restore_26 : decode cX8_restore 26 = .ok (.iload_n 1, 1) := by decide +kernel
theorem dX8_restore_27 : decode cX8_restore 27 = .ok (.aload_n 0, 1) := by decide +kernel
theorem dX8_restore_28 : decode cX8_restore 28 = .ok (.getfield 13, 3) := by decide +kernel
theorem dX8_restore_31 : decode cX8_restore 31 = .ok (.iload_n 1, 1) := by decide +kernel
theorem dX8_restore_32 : decode cX8_restore 32 = .ok (.iaload, 1) := by decide +kernel
theorem dX8_restore_33 : decode cX8_restore 33 = .ok (.iastore, 1) := by decide +kernel
theorem dX8_restore_34 : decode cX8_restore 34 = .ok (.iinc 1 1, 3) := by decide +kernel
theorem dX8_restore_37 : decode cX8_restore 37 = .ok (.goto (-21), 3) := by decide +kernel
theorem dX8_restore_40 : decode cX8_restore 40 = .ok (.aload_n 0, 1) := by decide +kernel
theorem dX8_restore_41 : decode cX8_restore 41 = .ok (.getfield 7, 3) := by decide +kernel
theorem dX8_restore_44 : decode cX8_restore 44 = .ok (.iconst 0, 1) := by decide +kernel
theorem dX8_restore_45 : decode cX8_restore 45 = .ok (.iaload, 1) := by decide +kernel
theorem dX8_restore_46 : decode cX8_restore 46 = .ok (.ireturn, 1) := by decide +kernel
theorem dX8_captainOf_0 : decode cX8_captainOf 0 = .ok (.iload_n 1, 1) := by decide +kernel
theorem dX8_captainOf_1 : decode cX8_captainOf 1 = .ok (.invokestatic 119, 3) := by decide +kernel
theorem dX8_captainOf_4 : decode cX8_captainOf 4 = .ok (.ifCond .ne 5, 3) := by decide +kernel
theorem dX8_captainOf_7 : decode cX8_captainOf 7 = .ok (.iconst (-1), 1) := by decide +kernel
theorem dX8_captainOf_8 : decode cX8_captainOf 8 = .ok (.ireturn, 1) := by decide +kernel
theorem dX8_captainOf_9 : decode cX8_captainOf 9 = .ok (.iload_n 2, 1) := by decide +kernel
theorem dX8_captainOf_10 : decode cX8_captainOf 10 = .ok (.iconst 0, 1) := by decide +kernel
theorem dX8_captainOf_11 : decode cX8_captainOf 11 = .ok (.iconst 3, 1) := by decide +kernel
theorem dX8_captainOf_12 : decode cX8_captainOf 12 = .ok (.invokestatic 51, 3) := by decide +kernel
theorem dX8_captainOf_15 : decode cX8_captainOf 15 = .ok (.ifCond .eq 10, 3) := by decide +kernel
theorem dX8_captainOf_18 : decode cX8_captainOf 18 = .ok (.aload_n 0, 1) := by decide +kernel
theorem dX8_captainOf_19 : decode cX8_captainOf 19 = .ok (.iload_n 1, 1) := by decide +kernel
theorem dX8_captainOf_20 : decode cX8_captainOf 20 = .ok (.iload_n 2, 1) := by decide +kernel
theorem dX8_captainOf_21 : decode cX8_captainOf 21 = .ok (.invokevirtual 55, 3) := by decide +kernel
theorem dX8_captainOf_24 : decode cX8_captainOf 24 = .ok (.ireturn, 1) := by decide +kernel
theorem dX8_captainOf_25 : decode cX8_captainOf 25 = .ok (.iload_n 2, 1) := by decide +kernel
theorem dX8_captainOf_26 : decode cX8_captainOf 26 = .ok (.iconst 4, 1) := by decide +kernel
theorem dX8_captainOf_27 : decode cX8_captainOf 27 = .ok (.if_icmp .ne 15, 3) := by decide +kernel
theorem dX8_captainOf_30 : decode cX8_captainOf 30 = .ok (.aload_n 0, 1) := by decide +kernel
theorem dX8_captainOf_31 : decode cX8_captainOf 31 = .ok (.iload_n 1, 1) := by decide +kernel
theorem dX8_captainOf_32 : decode cX8_captainOf 32 = .ok (.invokevirtual 65, 3) := by decide +kernel
theorem dX8_captainOf_35 : decode cX8_captainOf 35 = .ok (.aload_n 0, 1) := by decide +kernel
theorem dX8_captainOf_36 : decode cX8_captainOf 36 = .ok (.getfield 28, 3) := by decide +kernel
theorem dX8_captainOf_39 : decode cX8_captainOf 39 = .ok (.iload_n 1, 1) := by decide +kernel
theorem dX8_captainOf_40 : decode cX8_captainOf 40 = .ok (.iaload, 1) := by decide +kernel
theorem dX8_captainOf_41 : decode cX8_captainOf 41 = .ok (.ireturn, 1) := by decide +kernel
theorem dX8_captainOf_42 : decode cX8_captainOf 42 = .ok (.iload_n 2, 1) := by decide +kernel
theorem dX8_captainOf_43 : decode cX8_captainOf 43 = .ok (.iconst 5, 1) := by decide +kernel
theorem dX8_captainOf_44 : decode cX8_captainOf 44 = .ok (.bipush 10, 2) := by decide +kernel
theorem dX8_captainOf_46 : decode cX8_captainOf 46 = .ok (.invokestatic 51, 3) := by decide +kernel
theorem dX8_captainOf_49 : decode cX8_captainOf 49 = .ok (.ifCond .eq 16, 3) := by decide +kernel
theorem dX8_captainOf_52 : decode cX8_captainOf 52 = .ok (.aload_n 0, 1) := by decide +kernel
theorem dX8_captainOf_53 : decode cX8_captainOf 53 = .ok (.iload_n 1, 1) := by decide +kernel
theorem dX8_captainOf_54 : decode cX8_captainOf 54 = .ok (.iconst 4, 1) := by decide +kernel
theorem dX8_captainOf_55 : decode cX8_captainOf 55 = .ok (.iload_n 2, 1) := by decide +kernel
theorem dX8_captainOf_56 : decode cX8_captainOf 56 = .ok (.iadd, 1) := by decide +kernel
theorem dX8_captainOf_57 : decode cX8_captainOf 57 = .ok (.iconst 5, 1) := by decide +kernel
theorem dX8_captainOf_58 : decode cX8_captainOf 58 = .ok (.isub, 1) := by decide +kernel
theorem dX8_captainOf_59 : decode cX8_captainOf 59 = .ok (.invokevirtual 55, 3) := by decide +kernel
theorem dX8_captainOf_62 : decode cX8_captainOf 62 = .ok (.goto 5, 3) := by decide +kernel
theorem dX8_captainOf_65 : decode cX8_captainOf 65 = .ok (.bipush (-2), 2) := by decide +kernel
theorem dX8_captainOf_67 : decode cX8_captainOf 67 = .ok (.ireturn, 1) := by decide +kernel
theorem dX8_printed_0 : decode cX8_printed 0 = .ok (.iload_n 1, 1) := by decide +kernel
theorem dX8_printed_1 : decode cX8_printed 1 = .ok (.invokestatic 119, 3) := by decide +kernel
theorem dX8_printed_4 : decode cX8_printed 4 = .ok (.ifCond .ne 5, 3) := by decide +kernel
theorem dX8_printed_7 : decode cX8_printed 7 = .ok (.iconst (-1), 1) := by decide +kernel
theorem dX8_printed_8 : decode cX8_printed 8 = .ok (.ireturn, 1) := by decide +kernel
theorem dX8_printed_9 : decode cX8_printed 9 = .ok (.aload_n 0, 1) := by decide +kernel
theorem dX8_printed_10 : decode cX8_printed 10 = .ok (.iload_n 1, 1) := by decide +kernel
theorem dX8_printed_11 : decode cX8_printed 11 = .ok (.invokevirtual 65, 3) := by decide +kernel
theorem dX8_printed_14 : decode cX8_printed 14 = .ok (.iload_n 2, 1) := by decide +kernel
theorem dX8_printed_15 : decode cX8_printed 15 = .ok (.iconst 0, 1) := by decide +kernel
theorem dX8_printed_16 : decode cX8_printed 16 = .ok (.aload_n 0, 1) := by decide +kernel
theorem dX8_printed_17 : decode cX8_printed 17 = .ok (.getfield 28, 3) := by decide +kernel
theorem dX8_printed_20 : decode cX8_printed 20 = .ok (.iload_n 1, 1) := by decide +kernel
theorem dX8_printed_21 : decode cX8_printed 21 = .ok (.iaload, 1) := by decide +kernel
theorem dX8_printed_22 : decode cX8_printed 22 = .ok (.iconst 1, 1) := by decide +kernel
theorem dX8_printed_23 : decode cX8_printed 23 = .ok (.isub, 1) := by decide +kernel
theorem dX8_printed_24 : decode cX8_printed 24 = .ok (.invokestatic 51, 3) := by decide +kernel
theorem dX8_printed_27 : decode cX8_printed 27 = .ok (.ifCond .ne 5, 3) := by decide +kernel
theorem dX8_printed_30 : decode cX8_printed 30 = .ok (.iconst (-1), 1) := by decide +kernel
theorem dX8_printed_31 : decode cX8_printed 31 = .ok (.ireturn, 1) := by decide +kernel
theorem dX8_printed_32 : decode cX8_printed 32 = .ok (.iload_n 3, 1) := by decide +kernel
theorem dX8_printed_33 : decode cX8_printed 33 = .ok (.ifCond .ne 12, 3) := by decide +kernel
theorem dX8_printed_36 : decode cX8_printed 36 = .ok (.aload_n 0, 1) := by decide +kernel
theorem dX8_printed_37 : decode cX8_printed 37 = .ok (.iload_n 1, 1) := by decide +kernel
theorem dX8_printed_38 : decode cX8_printed 38 = .ok (.iload_n 2, 1) := by decide +kernel
theorem dX8_printed_39 : decode cX8_printed 39 = .ok (.invokevirtual 69, 3) := by decide +kernel
theorem dX8_printed_42 : decode cX8_printed 42 = .ok (.goto 19, 3) := by decide +kernel
theorem dX8_printed_45 : decode cX8_printed 45 = .ok (.iload_n 3, 1) := by decide +kernel
theorem dX8_printed_46 : decode cX8_printed 46 = .ok (.iconst 1, 1) := by decide +kernel
theorem dX8_printed_47 : decode cX8_printed 47 = .ok (.if_icmp .ne 12, 3) := by decide +kernel
theorem dX8_printed_50 : decode cX8_printed 50 = .ok (.aload_n 0, 1) := by decide +kernel
theorem dX8_printed_51 : decode cX8_printed 51 = .ok (.iload_n 1, 1) := by decide +kernel
theorem dX8_printed_52 : decode cX8_printed 52 = .ok (.iload_n 2, 1) := by decide +kernel
theorem dX8_printed_53 : decode cX8_printed 53 = .ok (.invokevirtual 72, 3) := by decide +kernel
theorem dX8_printed_56 : decode cX8_printed 56 = .ok (.goto 5, 3) := by decide +kernel
theorem dX8_printed_59 : decode cX8_printed 59 = .ok (.bipush (-2), 2) := by decide +kernel
theorem dX8_printed_61 : decode cX8_printed 61 = .ok (.ireturn, 1) := by decide +kernel
theorem dX8_level_0 : decode cX8_level 0 = .ok (.iload_n 1, 1) := by decide +kernel
theorem dX8_level_1 : decode cX8_level 1 = .ok (.iconst 0, 1) := by decide +kernel
theorem dX8_level_2 : decode cX8_level 2 = .ok (.iconst 3, 1) := by decide +kernel
theorem dX8_level_3 : decode cX8_level 3 = .ok (.invokestatic 51, 3) := by decide +kernel
theorem dX8_level_6 : decode cX8_level 6 = .ok (.ifCond .eq 13, 3) := by decide +kernel
theorem dX8_level_9 : decode cX8_level 9 = .ok (.iload_n 2, 1) := by decide +kernel
theorem dX8_level_10 : decode cX8_level 10 = .ok (.iconst 0, 1) := by decide +kernel
theorem dX8_level_11 : decode cX8_level 11 = .ok (.bipush 23, 2) := by decide +kernel
theorem dX8_level_13 : decode cX8_level 13 = .ok (.invokestatic 51, 3) := by decide +kernel
theorem dX8_level_16 : decode cX8_level 16 = .ok (.ifCond .ne 5, 3) := by decide +kernel
theorem dX8_level_19 : decode cX8_level 19 = .ok (.iconst (-1), 1) := by decide +kernel
theorem dX8_level_20 : decode cX8_level 20 = .ok (.ireturn, 1) := by decide +kernel
theorem dX8_level_21 : decode cX8_level 21 = .ok (.iload_n 3, 1) := by decide +kernel
theorem dX8_level_22 : decode cX8_level 22 = .ok (.iconst 0, 1) := by decide +kernel
theorem dX8_level_23 : decode cX8_level 23 = .ok (.iconst 1, 1) := by decide +kernel
theorem dX8_level_24 : decode cX8_level 24 = .ok (.invokestatic 51, 3) := by decide +kernel
theorem dX8_level_27 : decode cX8_level 27 = .ok (.ifCond .eq 30, 3) := by decide +kernel
theorem dX8_level_30 : decode cX8_level 30 = .ok (.iload_n 1, 1) := by decide +kernel
theorem dX8_level_31 : decode cX8_level 31 = .ok (.iconst 3, 1) := by decide +kernel
theorem dX8_level_32 : decode cX8_level 32 = .ok (.if_icmp .ne 12, 3) := by decide +kernel
theorem dX8_level_35 : decode cX8_level 35 = .ok (.aload_n 0, 1) := by decide +kernel
theorem dX8_level_36 : decode cX8_level 36 = .ok (.getfield 7, 3) := by decide +kernel
theorem dX8_level_39 : decode cX8_level 39 = .ok (.iconst 1, 1) := by decide +kernel
theorem dX8_level_40 : decode cX8_level 40 = .ok (.iaload, 1) := by decide +kernel
theorem dX8_level_41 : decode cX8_level 41 = .ok (.goto 9, 3) := by decide +kernel
theorem dX8_level_44 : decode cX8_level 44 = .ok (.aload_n 0, 1) := by decide +kernel
theorem dX8_level_45 : decode cX8_level 45 = .ok (.iload_n 1, 1) := by decide +kernel
theorem dX8_level_46 : decode cX8_level 46 = .ok (.iconst 0, 1) := by decide +kernel
theorem dX8_level_47 : decode cX8_level 47 = .ok (.invokevirtual 55, 3) := by decide +kernel
theorem dX8_level_50 : decode cX8_level 50 = .ok (.iload_n 2, 1) := by decide +kernel
theorem dX8_level_51 : decode cX8_level 51 = .ok (.invokestatic 59, 3) := by decide +kernel
theorem dX8_level_54 : decode cX8_level 54 = .ok (.goto 5, 3) := by decide +kernel
theorem dX8_level_57 : decode cX8_level 57 = .ok (.bipush (-2), 2) := by decide +kernel
theorem dX8_level_59 : decode cX8_level 59 = .ok (.ireturn, 1) := by decide +kernel
theorem dX8_uses_0 : decode cX8_uses 0 = .ok (.iload_n 1, 1) := by decide +kernel
theorem dX8_uses_1 : decode cX8_uses 1 = .ok (.iconst 0, 1) := by decide +kernel
theorem dX8_uses_2 : decode cX8_uses 2 = .ok (.iconst 1, 1) := by decide +kernel
theorem dX8_uses_3 : decode cX8_uses 3 = .ok (.invokestatic 51, 3) := by decide +kernel
theorem dX8_uses_6 : decode cX8_uses 6 = .ok (.ifCond .eq 13, 3) := by decide +kernel
theorem dX8_uses_9 : decode cX8_uses 9 = .ok (.iload_n 2, 1) := by decide +kernel
theorem dX8_uses_10 : decode cX8_uses 10 = .ok (.iconst 0, 1) := by decide +kernel
theorem dX8_uses_11 : decode cX8_uses 11 = .ok (.bipush 23, 2) := by decide +kernel
theorem dX8_uses_13 : decode cX8_uses 13 = .ok (.invokestatic 51, 3) := by decide +kernel
theorem dX8_uses_16 : decode cX8_uses 16 = .ok (.ifCond .ne 5, 3) := by decide +kernel
theorem dX8_uses_19 : decode cX8_uses 19 = .ok (.iconst (-1), 1) := by decide +kernel
theorem dX8_uses_20 : decode cX8_uses 20 = .ok (.ireturn, 1) := by decide +kernel
theorem dX8_uses_21 : decode cX8_uses 21 = .ok (.aload_n 0, 1) := by decide +kernel
theorem dX8_uses_22 : decode cX8_uses 22 = .ok (.invokevirtual 110, 3) := by decide +kernel
theorem dX8_uses_25 : decode cX8_uses 25 = .ok (.aload_n 0, 1) := by decide +kernel
theorem dX8_uses_26 : decode cX8_uses 26 = .ok (.iload_n 1, 1) := by decide +kernel
theorem dX8_uses_27 : decode cX8_uses 27 = .ok (.iload_n 2, 1) := by decide +kernel
theorem dX8_uses_28 : decode cX8_uses 28 = .ok (.invokevirtual 78, 3) := by decide +kernel
theorem dX8_uses_31 : decode cX8_uses 31 = .ok (.ireturn, 1) := by decide +kernel
theorem dX8_clash_0 : decode cX8_clash 0 = .ok (.aload_n 0, 1) := by decide +kernel
theorem dX8_clash_1 : decode cX8_clash 1 = .ok (.invokevirtual 110, 3) := by decide +kernel
theorem dX8_clash_4 : decode cX8_clash 4 = .ok (.iload_n 1, 1) := by decide +kernel
theorem dX8_clash_5 : decode cX8_clash 5 = .ok (.istore_n 3, 1) := by decide +kernel
theorem dX8_clash_6 : decode cX8_clash 6 = .ok (.iconst 0, 1) := by decide +kernel
theorem dX8_clash_7 : decode cX8_clash 7 = .ok (.istore 4, 2) := by decide +kernel
theorem dX8_clash_9 : decode cX8_clash 9 = .ok (.iload 4, 2) := by decide +kernel
theorem dX8_clash_11 : decode cX8_clash 11 = .ok (.bipush 48, 2) := by decide +kernel
theorem dX8_clash_13 : decode cX8_clash 13 = .ok (.if_icmp .ge 84, 3) := by decide +kernel
theorem dX8_clash_16 : decode cX8_clash 16 = .ok (.iload_n 3, 1) := by decide +kernel
theorem dX8_clash_17 : decode cX8_clash 17 = .ok (.ifCond .lt 80, 3) := by decide +kernel
theorem dX8_clash_20 : decode cX8_clash 20 = .ok (.aload_n 0, 1) := by decide +kernel
theorem dX8_clash_21 : decode cX8_clash 21 = .ok (.iload 4, 2) := by decide +kernel
theorem dX8_clash_23 : decode cX8_clash 23 = .ok (.iconst 2, 1) := by decide +kernel
theorem dX8_clash_24 : decode cX8_clash 24 = .ok (.irem, 1) := by decide +kernel
theorem dX8_clash_25 : decode cX8_clash 25 = .ok (.iload 4, 2) := by decide +kernel
theorem dX8_clash_27 : decode cX8_clash 27 = .ok (.iconst 2, 1) := by decide +kernel
theorem dX8_clash_28 : decode cX8_clash 28 = .ok (.idiv, 1) := by decide +kernel
theorem dX8_clash_29 : decode cX8_clash 29 = .ok (.invokevirtual 78, 3) := by decide +kernel
theorem dX8_clash_32 : decode cX8_clash 32 = .ok (.istore 5, 2) := by decide +kernel
theorem dX8_clash_34 : decode cX8_clash 34 = .ok (.iload_n 3, 1) := by decide +kernel
theorem dX8_clash_35 : decode cX8_clash 35 = .ok (.iload 5, 2) := by decide +kernel
theorem dX8_clash_37 : decode cX8_clash 37 = .ok (.invokestatic 81, 3) := by decide +kernel
theorem dX8_clash_40 : decode cX8_clash 40 = .ok (.iconst 1, 1) := by decide +kernel
theorem dX8_clash_41 : decode cX8_clash 41 = .ok (.if_icmp .le 7, 3) := by decide +kernel
theorem dX8_clash_44 : decode cX8_clash 44 = .ok (.iconst 1, 1) := by decide +kernel
theorem dX8_clash_45 : decode cX8_clash 45 = .ok (.goto 4, 3) := by decide +kernel
theorem dX8_clash_48 : decode cX8_clash 48 = .ok (.iconst 0, 1) := by decide +kernel
theorem dX8_clash_49 : decode cX8_clash 49 = .ok (.isub, 1) := by decide +kernel
theorem dX8_clash_50 : decode cX8_clash 50 = .ok (.istore_n 3, 1) := by decide +kernel
theorem dX8_clash_51 : decode cX8_clash 51 = .ok (.iload_n 3, 1) := by decide +kernel
theorem dX8_clash_52 : decode cX8_clash 52 = .ok (.ifCond .ge 39, 3) := by decide +kernel
theorem dX8_clash_55 : decode cX8_clash 55 = .ok (.iload_n 2, 1) := by decide +kernel
theorem dX8_clash_56 : decode cX8_clash 56 = .ok (.ifCond .ne 10, 3) := by decide +kernel
theorem dX8_clash_59 : decode cX8_clash 59 = .ok (.iload 4, 2) := by decide +kernel
theorem dX8_clash_61 : decode cX8_clash 61 = .ok (.iconst 2, 1) := by decide +kernel
theorem dX8_clash_62 : decode cX8_clash 62 = .ok (.idiv, 1) := by decide +kernel
theorem dX8_clash_63 : decode cX8_clash 63 = .ok (.goto 27, 3) := by decide +kernel
theorem dX8_clash_66 : decode cX8_clash 66 = .ok (.iload_n 2, 1) := by decide +kernel
theorem dX8_clash_67 : decode cX8_clash 67 = .ok (.iconst 1, 1) := by decide +kernel
theorem dX8_clash_68 : decode cX8_clash 68 = .ok (.if_icmp .ne 10, 3) := by decide +kernel
theorem dX8_clash_71 : decode cX8_clash 71 = .ok (.iload 4, 2) := by decide +kernel
theorem dX8_clash_73 : decode cX8_clash 73 = .ok (.iconst 2, 1) := by decide +kernel
theorem dX8_clash_74 : decode cX8_clash 74 = .ok (.irem, 1) := by decide +kernel
theorem dX8_clash_75 : decode cX8_clash 75 = .ok (.goto 15, 3) := by decide +kernel
theorem dX8_clash_78 : decode cX8_clash 78 = .ok (.iload_n 2, 1) := by decide +kernel
theorem dX8_clash_79 : decode cX8_clash 79 = .ok (.iconst 2, 1) := by decide +kernel
theorem dX8_clash_80 : decode cX8_clash 80 = .ok (.if_icmp .ne 8, 3) := by decide +kernel
theorem dX8_clash_83 : decode cX8_clash 83 = .ok (.iload 5, 2) := by decide +kernel
theorem dX8_clash_85 : decode cX8_clash 85 = .ok (.goto 5, 3) := by decide +kernel
theorem dX8_clash_88 : decode cX8_clash 88 = .ok (.bipush (-2), 2) := by decide +kernel
theorem dX8_clash_90 : decode cX8_clash 90 = .ok (.ireturn, 1) := by decide +kernel
theorem dX8_clash_91 : decode cX8_clash 91 = .ok (.iinc 4 1, 3) := by decide +kernel
theorem dX8_clash_94 : decode cX8_clash 94 = .ok (.goto (-85), 3) := by decide +kernel
theorem dX8_clash_97 : decode cX8_clash 97 = .ok (.iconst (-1), 1) := by decide +kernel
theorem dX8_clash_98 : decode cX8_clash 98 = .ok (.ireturn, 1) := by decide +kernel
theorem dX8_hours_0 : decode cX8_hours 0 = .ok (.iload_n 1, 1) := by decide +kernel
theorem dX8_hours_1 : decode cX8_hours 1 = .ok (.invokestatic 119, 3) := by decide +kernel
theorem dX8_hours_4 : decode cX8_hours 4 = .ok (.ifCond .ne 5, 3) := by decide +kernel
theorem dX8_hours_7 : decode cX8_hours 7 = .ok (.iconst (-1), 1) := by decide +kernel
theorem dX8_hours_8 : decode cX8_hours 8 = .ok (.ireturn, 1) := by decide +kernel
theorem dX8_hours_9 : decode cX8_hours 9 = .ok (.iload_n 2, 1) := by decide +kernel
theorem dX8_hours_10 : decode cX8_hours 10 = .ok (.iconst 0, 1) := by decide +kernel
theorem dX8_hours_11 : decode cX8_hours 11 = .ok (.iconst 2, 1) := by decide +kernel
theorem dX8_hours_12 : decode cX8_hours 12 = .ok (.invokestatic 51, 3) := by decide +kernel
theorem dX8_hours_15 : decode cX8_hours 15 = .ok (.ifCond .ne 6, 3) := by decide +kernel
theorem dX8_hours_18 : decode cX8_hours 18 = .ok (.bipush (-2), 2) := by decide +kernel
theorem dX8_hours_20 : decode cX8_hours 20 = .ok (.ireturn, 1) := by decide +kernel
theorem dX8_hours_21 : decode cX8_hours 21 = .ok (.iconst 0, 1) := by decide +kernel
theorem dX8_hours_22 : decode cX8_hours 22 = .ok (.istore_n 3, 1) := by decide +kernel
theorem dX8_hours_23 : decode cX8_hours 23 = .ok (.iconst 0, 1) := by decide +kernel
theorem dX8_hours_24 : decode cX8_hours 24 = .ok (.istore 4, 2) := by decide +kernel
theorem dX8_hours_26 : decode cX8_hours 26 = .ok (.iconst 0, 1) := by decide +kernel
theorem dX8_hours_27 : decode cX8_hours 27 = .ok (.istore 5, 2) := by decide +kernel
theorem dX8_hours_29 : decode cX8_hours 29 = .ok (.iload 5, 2) := by decide +kernel
theorem dX8_hours_31 : decode cX8_hours 31 = .ok (.bipush 24, 2) := by decide +kernel
theorem dX8_hours_33 : decode cX8_hours 33 = .ok (.if_icmp .ge 65, 3) := by decide +kernel
theorem dX8_hours_36 : decode cX8_hours 36 = .ok (.iload_n 3, 1) := by decide +kernel
theorem dX8_hours_37 : decode cX8_hours 37 = .ok (.aload_n 0, 1) := by decide +kernel
theorem dX8_hours_38 : decode cX8_hours 38 = .ok (.iload_n 1, 1) := by decide +kernel
theorem dX8_hours_39 : decode cX8_hours 39 = .ok (.aload_n 0, 1) := by decide +kernel
theorem dX8_hours_40 : decode cX8_hours 40 = .ok (.iload_n 1, 1) := by decide +kernel
theorem dX8_hours_41 : decode cX8_hours 41 = .ok (.iconst 0, 1) := by decide +kernel
theorem dX8_hours_42 : decode cX8_hours 42 = .ok (.invokevirtual 55, 3) := by decide +kernel
theorem dX8_hours_45 : decode cX8_hours 45 = .ok (.iload 5, 2) := by decide +kernel
theorem dX8_hours_47 : decode cX8_hours 47 = .ok (.invokevirtual 62, 3) := by decide +kernel
theorem dX8_hours_50 : decode cX8_hours 50 = .ok (.ifCond .eq 10, 3) := by decide +kernel
theorem dX8_hours_53 : decode cX8_hours 53 = .ok (.iconst 1, 1) := by decide +kernel
theorem dX8_hours_54 : decode cX8_hours 54 = .ok (.iload 5, 2) := by decide +kernel
theorem dX8_hours_56 : decode cX8_hours 56 = .ok (.ishl, 1) := by decide +kernel
theorem dX8_hours_57 : decode cX8_hours 57 = .ok (.goto 4, 3) := by decide +kernel
theorem dX8_hours_60 : decode cX8_hours 60 = .ok (.iconst 0, 1) := by decide +kernel
theorem dX8_hours_61 : decode cX8_hours 61 = .ok (.ior, 1) := by decide +kernel
theorem dX8_hours_62 : decode cX8_hours 62 = .ok (.istore_n 3, 1) := by decide +kernel
theorem dX8_hours_63 : decode cX8_hours 63 = .ok (.iload 4, 2) := by decide +kernel
theorem dX8_hours_65 : decode cX8_hours 65 = .ok (.aload_n 0, 1) := by decide +kernel
theorem dX8_hours_66 : decode cX8_hours 66 = .ok (.iload_n 1, 1) := by decide +kernel
theorem dX8_hours_67 : decode cX8_hours 67 = .ok (.aload_n 0, 1) := by decide +kernel
theorem dX8_hours_68 : decode cX8_hours 68 = .ok (.getfield 7, 3) := by decide +kernel
theorem dX8_hours_71 : decode cX8_hours 71 = .ok (.iconst 1, 1) := by decide +kernel
theorem dX8_hours_72 : decode cX8_hours 72 = .ok (.iaload, 1) := by decide +kernel
theorem dX8_hours_73 : decode cX8_hours 73 = .ok (.iload 5, 2) := by decide +kernel
theorem dX8_hours_75 : decode cX8_hours 75 = .ok (.invokevirtual 62, 3) := by decide +kernel
theorem dX8_hours_78 : decode cX8_hours 78 = .ok (.ifCond .eq 10, 3) := by decide +kernel
theorem dX8_hours_81 : decode cX8_hours 81 = .ok (.iconst 1, 1) := by decide +kernel
theorem dX8_hours_82 : decode cX8_hours 82 = .ok (.iload 5, 2) := by decide +kernel
theorem dX8_hours_84 : decode cX8_hours 84 = .ok (.ishl, 1) := by decide +kernel
theorem dX8_hours_85 : decode cX8_hours 85 = .ok (.goto 4, 3) := by decide +kernel
theorem dX8_hours_88 : decode cX8_hours 88 = .ok (.iconst 0, 1) := by decide +kernel
theorem dX8_hours_89 : decode cX8_hours 89 = .ok (.ior, 1) := by decide +kernel
theorem dX8_hours_90 : decode cX8_hours 90 = .ok (.istore 4, 2) := by decide +kernel
theorem dX8_hours_92 : decode cX8_hours 92 = .ok (.iinc 5 1, 3) := by decide +kernel
theorem dX8_hours_95 : decode cX8_hours 95 = .ok (.goto (-66), 3) := by decide +kernel
theorem dX8_hours_98 : decode cX8_hours 98 = .ok (.iload_n 2, 1) := by decide +kernel
theorem dX8_hours_99 : decode cX8_hours 99 = .ok (.ifCond .ne 7, 3) := by decide +kernel
theorem dX8_hours_102 : decode cX8_hours 102 = .ok (.iload_n 3, 1) := by decide +kernel
theorem dX8_hours_103 : decode cX8_hours 103 = .ok (.goto 17, 3) := by decide +kernel
theorem dX8_hours_106 : decode cX8_hours 106 = .ok (.iload_n 2, 1) := by decide +kernel
theorem dX8_hours_107 : decode cX8_hours 107 = .ok (.iconst 1, 1) := by decide +kernel
theorem dX8_hours_108 : decode cX8_hours 108 = .ok (.if_icmp .ne 8, 3) := by decide +kernel
theorem dX8_hours_111 : decode cX8_hours 111 = .ok (.iload 4, 2) := by decide +kernel
theorem dX8_hours_113 : decode cX8_hours 113 = .ok (.goto 7, 3) := by decide +kernel
theorem dX8_hours_116 : decode cX8_hours 116 = .ok (.iload_n 3, 1) := by decide +kernel
theorem dX8_hours_117 : decode cX8_hours 117 = .ok (.iload 4, 2) := by decide +kernel
theorem dX8_hours_119 : decode cX8_hours 119 = .ok (.ixor, 1) := by decide +kernel
theorem dX8_hours_120 : decode cX8_hours 120 = .ok (.ireturn, 1) := by decide +kernel
theorem dX8_count_0 : decode cX8_count 0 = .ok (.aload_n 0, 1) := by decide +kernel
theorem dX8_count_1 : decode cX8_count 1 = .ok (.invokevirtual 110, 3) := by decide +kernel
theorem dX8_count_4 : decode cX8_count 4 = .ok (.iload_n 1, 1) := by decide +kernel
theorem dX8_count_5 : decode cX8_count 5 = .ok (.tableswitch 173 0 13 #[71, 78, 85, 92, 97, 118, 124, 131, 138, 144, 151, 156, 161, 161], 71) := by decide +kernel
theorem dX8_count_76 : decode cX8_count 76 = .ok (.aload_n 0, 1) := by decide +kernel
theorem dX8_count_77 : decode cX8_count 77 = .ok (.getfield 7, 3) := by decide +kernel
theorem dX8_count_80 : decode cX8_count 80 = .ok (.iconst 0, 1) := by decide +kernel
theorem dX8_count_81 : decode cX8_count 81 = .ok (.iaload, 1) := by decide +kernel
theorem dX8_count_82 : decode cX8_count 82 = .ok (.ireturn, 1) := by decide +kernel
theorem dX8_count_83 : decode cX8_count 83 = .ok (.aload_n 0, 1) := by decide +kernel
theorem dX8_count_84 : decode cX8_count 84 = .ok (.getfield 7, 3) := by decide +kernel
theorem dX8_count_87 : decode cX8_count 87 = .ok (.iconst 1, 1) := by decide +kernel
theorem dX8_count_88 : decode cX8_count 88 = .ok (.iaload, 1) := by decide +kernel
theorem dX8_count_89 : decode cX8_count 89 = .ok (.ireturn, 1) := by decide +kernel
theorem dX8_count_90 : decode cX8_count 90 = .ok (.aload_n 0, 1) := by decide +kernel
theorem dX8_count_91 : decode cX8_count 91 = .ok (.getfield 7, 3) := by decide +kernel
theorem dX8_count_94 : decode cX8_count 94 = .ok (.iconst 2, 1) := by decide +kernel
theorem dX8_count_95 : decode cX8_count 95 = .ok (.iaload, 1) := by decide +kernel
theorem dX8_count_96 : decode cX8_count 96 = .ok (.ireturn, 1) := by decide +kernel
theorem dX8_count_97 : decode cX8_count 97 = .ok (.aload_n 0, 1) := by decide +kernel
theorem dX8_count_98 : decode cX8_count 98 = .ok (.invokevirtual 172, 3) := by decide +kernel
theorem dX8_count_101 : decode cX8_count 101 = .ok (.ireturn, 1) := by decide +kernel
theorem dX8_count_102 : decode cX8_count 102 = .ok (.aload_n 0, 1) := by decide +kernel
theorem dX8_count_103 : decode cX8_count 103 = .ok (.getfield 28, 3) := by decide +kernel
theorem dX8_count_106 : decode cX8_count 106 = .ok (.iconst 0, 1) := by decide +kernel
theorem dX8_count_107 : decode cX8_count 107 = .ok (.iaload, 1) := by decide +kernel
theorem dX8_count_108 : decode cX8_count 108 = .ok (.aload_n 0, 1) := by decide +kernel
theorem dX8_count_109 : decode cX8_count 109 = .ok (.getfield 28, 3) := by decide +kernel
theorem dX8_count_112 : decode cX8_count 112 = .ok (.iconst 1, 1) := by decide +kernel
theorem dX8_count_113 : decode cX8_count 113 = .ok (.iaload, 1) := by decide +kernel
theorem dX8_count_114 : decode cX8_count 114 = .ok (.iadd, 1) := by decide +kernel
theorem dX8_count_115 : decode cX8_count 115 = .ok (.aload_n 0, 1) := by decide +kernel
theorem dX8_count_116 : decode cX8_count 116 = .ok (.getfield 28, 3) := by decide +kernel
theorem dX8_count_119 : decode cX8_count 119 = .ok (.iconst 2, 1) := by decide +kernel
theorem dX8_count_120 : decode cX8_count 120 = .ok (.iaload, 1) := by decide +kernel
theorem dX8_count_121 : decode cX8_count 121 = .ok (.iadd, 1) := by decide +kernel
theorem dX8_count_122 : decode cX8_count 122 = .ok (.ireturn, 1) := by decide +kernel
theorem dX8_count_123 : decode cX8_count 123 = .ok (.aload_n 0, 1) := by decide +kernel
theorem dX8_count_124 : decode cX8_count 124 = .ok (.iconst 4, 1) := by decide +kernel
theorem dX8_count_125 : decode cX8_count 125 = .ok (.invokevirtual 136, 3) := by decide +kernel
theorem dX8_count_128 : decode cX8_count 128 = .ok (.ireturn, 1) := by decide +kernel
theorem dX8_count_129 : decode cX8_count 129 = .ok (.aload_n 0, 1) := by decide +kernel
theorem dX8_count_130 : decode cX8_count 130 = .ok (.bipush 8, 2) := by decide +kernel
theorem dX8_count_132 : decode cX8_count 132 = .ok (.invokevirtual 136, 3) := by decide +kernel
theorem dX8_count_135 : decode cX8_count 135 = .ok (.ireturn, 1) := by decide +kernel
theorem dX8_count_136 : decode cX8_count 136 = .ok (.aload_n 0, 1) := by decide +kernel
theorem dX8_count_137 : decode cX8_count 137 = .ok (.getfield 7, 3) := by decide +kernel
theorem dX8_count_140 : decode cX8_count 140 = .ok (.iconst 5, 1) := by decide +kernel
theorem dX8_count_141 : decode cX8_count 141 = .ok (.iaload, 1) := by decide +kernel
theorem dX8_count_142 : decode cX8_count 142 = .ok (.ireturn, 1) := by decide +kernel
theorem dX8_count_143 : decode cX8_count 143 = .ok (.aload_n 0, 1) := by decide +kernel
theorem dX8_count_144 : decode cX8_count 144 = .ok (.iconst 5, 1) := by decide +kernel
theorem dX8_count_145 : decode cX8_count 145 = .ok (.invokevirtual 136, 3) := by decide +kernel
theorem dX8_count_148 : decode cX8_count 148 = .ok (.ireturn, 1) := by decide +kernel
theorem dX8_count_149 : decode cX8_count 149 = .ok (.aload_n 0, 1) := by decide +kernel
theorem dX8_count_150 : decode cX8_count 150 = .ok (.bipush 6, 2) := by decide +kernel
theorem dX8_count_152 : decode cX8_count 152 = .ok (.invokevirtual 136, 3) := by decide +kernel
theorem dX8_count_155 : decode cX8_count 155 = .ok (.ireturn, 1) := by decide +kernel
theorem dX8_count_156 : decode cX8_count 156 = .ok (.aload_n 0, 1) := by decide +kernel
theorem dX8_count_157 : decode cX8_count 157 = .ok (.getfield 47, 3) := by decide +kernel
theorem dX8_count_160 : decode cX8_count 160 = .ok (.ireturn, 1) := by decide +kernel
theorem dX8_count_161 : decode cX8_count 161 = .ok (.aload_n 0, 1) := by decide +kernel
theorem dX8_count_162 : decode cX8_count 162 = .ok (.getfield 142, 3) := by decide +kernel
theorem dX8_count_165 : decode cX8_count 165 = .ok (.ireturn, 1) := by decide +kernel
theorem dX8_count_166 : decode cX8_count 166 = .ok (.aload_n 0, 1) := by decide +kernel
theorem dX8_count_167 : decode cX8_count 167 = .ok (.getfield 7, 3) := by decide +kernel
theorem dX8_count_170 : decode cX8_count 170 = .ok (.iconst 3, 1) := by decide +kernel
theorem dX8_count_171 : decode cX8_count 171 = .ok (.iload_n 1, 1) := by decide +kernel
theorem dX8_count_172 : decode cX8_count 172 = .ok (.iadd, 1) := by decide +kernel
theorem dX8_count_173 : decode cX8_count 173 = .ok (.bipush 12, 2) := by decide +kernel
theorem dX8_count_175 : decode cX8_count 175 = .ok (.isub, 1) := by decide +kernel
theorem dX8_count_176 : decode cX8_count 176 = .ok (.iaload, 1) := by decide +kernel
theorem dX8_count_177 : decode cX8_count 177 = .ok (.ireturn, 1) := by decide +kernel
theorem dX8_count_178 : decode cX8_count 178 = .ok (.bipush (-2), 2) := by decide +kernel
theorem dX8_count_180 : decode cX8_count 180 = .ok (.ireturn, 1) := by decide +kernel
theorem dX8_made_0 : decode cX8_made 0 = .ok (.aload_n 0, 1) := by decide +kernel
theorem dX8_made_1 : decode cX8_made 1 = .ok (.iconst 4, 1) := by decide +kernel
theorem dX8_made_2 : decode cX8_made 2 = .ok (.invokevirtual 136, 3) := by decide +kernel
theorem dX8_made_5 : decode cX8_made 5 = .ok (.aload_n 0, 1) := by decide +kernel
theorem dX8_made_6 : decode cX8_made 6 = .ok (.bipush 8, 2) := by decide +kernel
theorem dX8_made_8 : decode cX8_made 8 = .ok (.invokevirtual 136, 3) := by decide +kernel
theorem dX8_made_11 : decode cX8_made 11 = .ok (.iadd, 1) := by decide +kernel
theorem dX8_made_12 : decode cX8_made 12 = .ok (.istore_n 1, 1) := by decide +kernel
theorem dX8_made_13 : decode cX8_made 13 = .ok (.iload_n 1, 1) := by decide +kernel
theorem dX8_made_14 : decode cX8_made 14 = .ok (.ifCond .ne 7, 3) := by decide +kernel
theorem dX8_made_17 : decode cX8_made 17 = .ok (.fconst 1, 1) := by decide +kernel
theorem dX8_made_18 : decode cX8_made 18 = .ok (.goto 12, 3) := by decide +kernel
theorem dX8_made_21 : decode cX8_made 21 = .ok (.aload_n 0, 1) := by decide +kernel
theorem dX8_made_22 : decode cX8_made 22 = .ok (.iconst 4, 1) := by decide +kernel
theorem dX8_made_23 : decode cX8_made 23 = .ok (.invokevirtual 136, 3) := by decide +kernel
theorem dX8_made_26 : decode cX8_made 26 = .ok (.i2f, 1) := by decide +kernel
theorem dX8_made_27 : decode cX8_made 27 = .ok (.iload_n 1, 1) := by decide +kernel
theorem dX8_made_28 : decode cX8_made 28 = .ok (.i2f, 1) := by decide +kernel
theorem dX8_made_29 : decode cX8_made 29 = .ok (.fdiv, 1) := by decide +kernel
theorem dX8_made_30 : decode cX8_made 30 = .ok (.freturn, 1) := by decide +kernel
theorem dX8_told_0 : decode cX8_told 0 = .ok (.iload_n 1, 1) := by decide +kernel
theorem dX8_told_1 : decode cX8_told 1 = .ok (.ifCond .ne 11, 3) := by decide +kernel
theorem dX8_told_4 : decode cX8_told 4 = .ok (.aload_n 0, 1) := by decide +kernel
theorem dX8_told_5 : decode cX8_told 5 = .ok (.iconst 4, 1) := by decide +kernel
theorem dX8_told_6 : decode cX8_told 6 = .ok (.invokevirtual 136, 3) := by decide +kernel
theorem dX8_told_9 : decode cX8_told 9 = .ok (.goto 50, 3) := by decide +kernel
theorem dX8_told_12 : decode cX8_told 12 = .ok (.iload_n 1, 1) := by decide +kernel
theorem dX8_told_13 : decode cX8_told 13 = .ok (.iconst 1, 1) := by decide +kernel
theorem dX8_told_14 : decode cX8_told 14 = .ok (.if_icmp .ne 12, 3) := by decide +kernel
theorem dX8_told_17 : decode cX8_told 17 = .ok (.aload_n 0, 1) := by decide +kernel
theorem dX8_told_18 : decode cX8_told 18 = .ok (.bipush 8, 2) := by decide +kernel
theorem dX8_told_20 : decode cX8_told 20 = .ok (.invokevirtual 136, 3) := by decide +kernel
theorem dX8_told_23 : decode cX8_told 23 = .ok (.goto 36, 3) := by decide +kernel
theorem dX8_told_26 : decode cX8_told 26 = .ok (.iload_n 1, 1) := by decide +kernel
theorem dX8_told_27 : decode cX8_told 27 = .ok (.iconst 2, 1) := by decide +kernel
theorem dX8_told_28 : decode cX8_told 28 = .ok (.if_icmp .ne 11, 3) := by decide +kernel
theorem dX8_told_31 : decode cX8_told 31 = .ok (.aload_n 0, 1) := by decide +kernel
theorem dX8_told_32 : decode cX8_told 32 = .ok (.iconst 5, 1) := by decide +kernel
theorem dX8_told_33 : decode cX8_told 33 = .ok (.invokevirtual 136, 3) := by decide +kernel
theorem dX8_told_36 : decode cX8_told 36 = .ok (.goto 23, 3) := by decide +kernel
theorem dX8_told_39 : decode cX8_told 39 = .ok (.iload_n 1, 1) := by decide +kernel
theorem dX8_told_40 : decode cX8_told 40 = .ok (.iconst 3, 1) := by decide +kernel
theorem dX8_told_41 : decode cX8_told 41 = .ok (.if_icmp .ne 12, 3) := by decide +kernel
theorem dX8_told_44 : decode cX8_told 44 = .ok (.aload_n 0, 1) := by decide +kernel
theorem dX8_told_45 : decode cX8_told 45 = .ok (.bipush 6, 2) := by decide +kernel
theorem dX8_told_47 : decode cX8_told 47 = .ok (.invokevirtual 136, 3) := by decide +kernel
theorem dX8_told_50 : decode cX8_told 50 = .ok (.goto 9, 3) := by decide +kernel
theorem dX8_told_53 : decode cX8_told 53 = .ok (.aload_n 0, 1) := by decide +kernel
theorem dX8_told_54 : decode cX8_told 54 = .ok (.getfield 7, 3) := by decide +kernel
theorem dX8_told_57 : decode cX8_told 57 = .ok (.iconst 5, 1) := by decide +kernel
theorem dX8_told_58 : decode cX8_told 58 = .ok (.iaload, 1) := by decide +kernel
theorem dX8_told_59 : decode cX8_told 59 = .ok (.ireturn, 1) := by decide +kernel
theorem dX8_ifSailed_0 : decode cX8_ifSailed 0 = .ok (.iload_n 1, 1) := by decide +kernel
theorem dX8_ifSailed_1 : decode cX8_ifSailed 1 = .ok (.iconst 0, 1) := by decide +kernel
theorem dX8_ifSailed_2 : decode cX8_ifSailed 2 = .ok (.iconst 5, 1) := by decide +kernel
theorem dX8_ifSailed_3 : decode cX8_ifSailed 3 = .ok (.invokestatic 51, 3) := by decide +kernel
theorem dX8_ifSailed_6 : decode cX8_ifSailed 6 = .ok (.ifCond .ne 6, 3) := by decide +kernel
theorem dX8_ifSailed_9 : decode cX8_ifSailed 9 = .ok (.bipush (-2), 2) := by decide +kernel
theorem dX8_ifSailed_11 : decode cX8_ifSailed 11 = .ok (.ireturn, 1) := by decide +kernel
theorem dX8_ifSailed_12 : decode cX8_ifSailed 12 = .ok (.aload_n 0, 1) := by decide +kernel
theorem dX8_ifSailed_13 : decode cX8_ifSailed 13 = .ok (.invokevirtual 175, 3) := by decide +kernel
theorem dX8_ifSailed_16 : decode cX8_ifSailed 16 = .ok (.aload_n 0, 1) := by decide +kernel
theorem dX8_ifSailed_17 : decode cX8_ifSailed 17 = .ok (.iload_n 1, 1) := by decide +kernel
theorem dX8_ifSailed_18 : decode cX8_ifSailed 18 = .ok (.invokevirtual 178, 3) := by decide +kernel
theorem dX8_ifSailed_21 : decode cX8_ifSailed 21 = .ok (.istore_n 2, 1) := by decide +kernel
theorem dX8_ifSailed_22 : decode cX8_ifSailed 22 = .ok (.aload_n 0, 1) := by decide +kernel
theorem dX8_ifSailed_23 : decode cX8_ifSailed 23 = .ok (.invokevirtual 139, 3) := by decide +kernel
theorem dX8_ifSailed_26 : decode cX8_ifSailed 26 = .ok (.iload_n 1, 1) := by decide +kernel
theorem dX8_ifSailed_27 : decode cX8_ifSailed 27 = .ok (.iconst 5, 1) := by decide +kernel
theorem dX8_ifSailed_28 : decode cX8_ifSailed 28 = .ok (.if_icmp .ne 10, 3) := by decide +kernel
theorem dX8_ifSailed_31 : decode cX8_ifSailed 31 = .ok (.aload_n 0, 1) := by decide +kernel
theorem dX8_ifSailed_32 : decode cX8_ifSailed 32 = .ok (.getfield 107, 3) := by decide +kernel
theorem dX8_ifSailed_35 : decode cX8_ifSailed 35 = .ok (.goto 10, 3) := by decide +kernel
theorem dX8_ifSailed_38 : decode cX8_ifSailed 38 = .ok (.aload_n 0, 1) := by decide +kernel
theorem dX8_ifSailed_39 : decode cX8_ifSailed 39 = .ok (.iload_n 1, 1) := by decide +kernel
theorem dX8_ifSailed_40 : decode cX8_ifSailed 40 = .ok (.invokevirtual 178, 3) := by decide +kernel
theorem dX8_ifSailed_43 : decode cX8_ifSailed 43 = .ok (.iload_n 2, 1) := by decide +kernel
theorem dX8_ifSailed_44 : decode cX8_ifSailed 44 = .ok (.isub, 1) := by decide +kernel
theorem dX8_ifSailed_45 : decode cX8_ifSailed 45 = .ok (.istore_n 3, 1) := by decide +kernel
theorem dX8_ifSailed_46 : decode cX8_ifSailed 46 = .ok (.aload_n 0, 1) := by decide +kernel
theorem dX8_ifSailed_47 : decode cX8_ifSailed 47 = .ok (.invokevirtual 181, 3) := by decide +kernel
theorem dX8_ifSailed_50 : decode cX8_ifSailed 50 = .ok (.iload_n 3, 1) := by decide +kernel
theorem dX8_ifSailed_51 : decode cX8_ifSailed 51 = .ok (.ireturn, 1) := by decide +kernel
theorem dX8_bestHour_0 : decode cX8_bestHour 0 = .ok (.iload_n 1, 1) := by decide +kernel
theorem dX8_bestHour_1 : decode cX8_bestHour 1 = .ok (.invokestatic 119, 3) := by decide +kernel
theorem dX8_bestHour_4 : decode cX8_bestHour 4 = .ok (.ifCond .ne 5, 3) := by decide +kernel
theorem dX8_bestHour_7 : decode cX8_bestHour 7 = .ok (.iconst (-1), 1) := by decide +kernel
theorem dX8_bestHour_8 : decode cX8_bestHour 8 = .ok (.ireturn, 1) := by decide +kernel
theorem dX8_bestHour_9 : decode cX8_bestHour 9 = .ok (.aload_n 0, 1) := by decide +kernel
theorem dX8_bestHour_10 : decode cX8_bestHour 10 = .ok (.iload_n 1, 1) := by decide +kernel
theorem dX8_bestHour_11 : decode cX8_bestHour 11 = .ok (.iconst 2, 1) := by decide +kernel
theorem dX8_bestHour_12 : decode cX8_bestHour 12 = .ok (.invokevirtual 55, 3) := by decide +kernel
theorem dX8_bestHour_15 : decode cX8_bestHour 15 = .ok (.istore_n 2, 1) := by decide +kernel
theorem dX8_bestHour_16 : decode cX8_bestHour 16 = .ok (.bipush (-5), 2) := by decide +kernel
theorem dX8_bestHour_18 : decode cX8_bestHour 18 = .ok (.istore_n 3, 1) := by decide +kernel
theorem dX8_bestHour_19 : decode cX8_bestHour 19 = .ok (.iconst 0, 1) := by decide +kernel
theorem dX8_bestHour_20 : decode cX8_bestHour 20 = .ok (.istore 4, 2) := by decide +kernel
theorem dX8_bestHour_22 : decode cX8_bestHour 22 = .ok (.iconst 0, 1) := by decide +kernel
theorem dX8_bestHour_23 : decode cX8_bestHour 23 = .ok (.istore 5, 2) := by decide +kernel
theorem dX8_bestHour_25 : decode cX8_bestHour 25 = .ok (.aload_n 0, 1) := by decide +kernel
theorem dX8_bestHour_26 : decode cX8_bestHour 26 = .ok (.invokevirtual 110, 3) := by decide +kernel
theorem dX8_bestHour_29 : decode cX8_bestHour 29 = .ok (.iconst 0, 1) := by decide +kernel
theorem dX8_bestHour_30 : decode cX8_bestHour 30 = .ok (.istore 6, 2) := by decide +kernel
theorem dX8_bestHour_32 : decode cX8_bestHour 32 = .ok (.iload 6, 2) := by decide +kernel
theorem dX8_bestHour_34 : decode cX8_bestHour 34 = .ok (.bipush 24, 2) := by decide +kernel
theorem dX8_bestHour_36 : decode cX8_bestHour 36 = .ok (.if_icmp .ge 74, 3) := by decide +kernel
theorem dX8_bestHour_39 : decode cX8_bestHour 39 = .ok (.aload_n 0, 1) := by decide +kernel
theorem dX8_bestHour_40 : decode cX8_bestHour 40 = .ok (.iload_n 1, 1) := by decide +kernel
theorem dX8_bestHour_41 : decode cX8_bestHour 41 = .ok (.iconst 2, 1) := by decide +kernel
theorem dX8_bestHour_42 : decode cX8_bestHour 42 = .ok (.iload 6, 2) := by decide +kernel
theorem dX8_bestHour_44 : decode cX8_bestHour 44 = .ok (.invokevirtual 43, 3) := by decide +kernel
theorem dX8_bestHour_47 : decode cX8_bestHour 47 = .ok (.aload_n 0, 1) := by decide +kernel
theorem dX8_bestHour_48 : decode cX8_bestHour 48 = .ok (.iload_n 1, 1) := by decide +kernel
theorem dX8_bestHour_49 : decode cX8_bestHour 49 = .ok (.invokevirtual 65, 3) := by decide +kernel
theorem dX8_bestHour_52 : decode cX8_bestHour 52 = .ok (.aload_n 0, 1) := by decide +kernel
theorem dX8_bestHour_53 : decode cX8_bestHour 53 = .ok (.invokevirtual 172, 3) := by decide +kernel
theorem dX8_bestHour_56 : decode cX8_bestHour 56 = .ok (.istore 7, 2) := by decide +kernel
theorem dX8_bestHour_58 : decode cX8_bestHour 58 = .ok (.iload_n 3, 1) := by decide +kernel
theorem dX8_bestHour_59 : decode cX8_bestHour 59 = .ok (.bipush (-5), 2) := by decide +kernel
theorem dX8_bestHour_61 : decode cX8_bestHour 61 = .ok (.if_icmp .eq 28, 3) := by decide +kernel
theorem dX8_bestHour_64 : decode cX8_bestHour 64 = .ok (.iload 7, 2) := by decide +kernel
theorem dX8_bestHour_66 : decode cX8_bestHour 66 = .ok (.iload 4, 2) := by decide +kernel
theorem dX8_bestHour_68 : decode cX8_bestHour 68 = .ok (.if_icmp .lt 21, 3) := by decide +kernel
theorem dX8_bestHour_71 : decode cX8_bestHour 71 = .ok (.iload 7, 2) := by decide +kernel
theorem dX8_bestHour_73 : decode cX8_bestHour 73 = .ok (.iload 4, 2) := by decide +kernel
theorem dX8_bestHour_75 : decode cX8_bestHour 75 = .ok (.if_icmp .ne 29, 3) := by decide +kernel
theorem dX8_bestHour_78 : decode cX8_bestHour 78 = .ok (.aload_n 0, 1) := by decide +kernel
theorem dX8_bestHour_79 : decode cX8_bestHour 79 = .ok (.getfield 28, 3) := by decide +kernel
theorem dX8_bestHour_82 : decode cX8_bestHour 82 = .ok (.iload_n 1, 1) := by decide +kernel
theorem dX8_bestHour_83 : decode cX8_bestHour 83 = .ok (.iaload, 1) := by decide +kernel
theorem dX8_bestHour_84 : decode cX8_bestHour 84 = .ok (.iload 5, 2) := by decide +kernel
theorem dX8_bestHour_86 : decode cX8_bestHour 86 = .ok (.if_icmp .le 18, 3) := by decide +kernel
theorem dX8_bestHour_89 : decode cX8_bestHour 89 = .ok (.iload 6, 2) := by decide +kernel
theorem dX8_bestHour_91 : decode cX8_bestHour 91 = .ok (.istore_n 3, 1) := by decide +kernel
theorem dX8_bestHour_92 : decode cX8_bestHour 92 = .ok (.iload 7, 2) := by decide +kernel
theorem dX8_bestHour_94 : decode cX8_bestHour 94 = .ok (.istore 4, 2) := by decide +kernel
theorem dX8_bestHour_96 : decode cX8_bestHour 96 = .ok (.aload_n 0, 1) := by decide +kernel
theorem dX8_bestHour_97 : decode cX8_bestHour 97 = .ok (.getfield 28, 3) := by decide +kernel
theorem dX8_bestHour_100 : decode cX8_bestHour 100 = .ok (.iload_n 1, 1) := by decide +kernel
theorem dX8_bestHour_101 : decode cX8_bestHour 101 = .ok (.iaload, 1) := by decide +kernel
theorem dX8_bestHour_102 : decode cX8_bestHour 102 = .ok (.istore 5, 2) := by decide +kernel
theorem dX8_bestHour_104 : decode cX8_bestHour 104 = .ok (.iinc 6 1, 3) := by decide +kernel
theorem dX8_bestHour_107 : decode cX8_bestHour 107 = .ok (.goto (-75), 3) := by decide +kernel
theorem dX8_bestHour_110 : decode cX8_bestHour 110 = .ok (.aload_n 0, 1) := by decide +kernel
theorem dX8_bestHour_111 : decode cX8_bestHour 111 = .ok (.iload_n 1, 1) := by decide +kernel
theorem dX8_bestHour_112 : decode cX8_bestHour 112 = .ok (.iconst 2, 1) := by decide +kernel
theorem dX8_bestHour_113 : decode cX8_bestHour 113 = .ok (.iload_n 2, 1) := by decide +kernel
theorem dX8_bestHour_114 : decode cX8_bestHour 114 = .ok (.invokevirtual 43, 3) := by decide +kernel
theorem dX8_bestHour_117 : decode cX8_bestHour 117 = .ok (.iload_n 3, 1) := by decide +kernel
theorem dX8_bestHour_118 : decode cX8_bestHour 118 = .ok (.ireturn, 1) := by decide +kernel
theorem dX8_bestPhase_0 : decode cX8_bestPhase 0 = .ok (.iload_n 1, 1) := by decide +kernel
theorem dX8_bestPhase_1 : decode cX8_bestPhase 1 = .ok (.invokestatic 119, 3) := by decide +kernel
theorem dX8_bestPhase_4 : decode cX8_bestPhase 4 = .ok (.ifCond .ne 5, 3) := by decide +kernel
theorem dX8_bestPhase_7 : decode cX8_bestPhase 7 = .ok (.iconst (-1), 1) := by decide +kernel
theorem dX8_bestPhase_8 : decode cX8_bestPhase 8 = .ok (.ireturn, 1) := by decide +kernel
theorem dX8_bestPhase_9 : decode cX8_bestPhase 9 = .ok (.bipush (-5), 2) := by decide +kernel
theorem dX8_bestPhase_11 : decode cX8_bestPhase 11 = .ok (.istore_n 2, 1) := by decide +kernel
theorem dX8_bestPhase_12 : decode cX8_bestPhase 12 = .ok (.iconst 0, 1) := by decide +kernel
theorem dX8_bestPhase_13 : decode cX8_bestPhase 13 = .ok (.istore_n 3, 1) := by decide +kernel
theorem dX8_bestPhase_14 : decode cX8_bestPhase 14 = .ok (.aload_n 0, 1) := by decide +kernel
theorem dX8_bestPhase_15 : decode cX8_bestPhase 15 = .ok (.invokevirtual 175, 3) := by decide +kernel
theorem dX8_bestPhase_18 : decode cX8_bestPhase 18 = .ok (.iconst 0, 1) := by decide +kernel
theorem dX8_bestPhase_19 : decode cX8_bestPhase 19 = .ok (.istore 4, 2) := by decide +kernel
theorem dX8_bestPhase_21 : decode cX8_bestPhase 21 = .ok (.iload 4, 2) := by decide +kernel
theorem dX8_bestPhase_23 : decode cX8_bestPhase 23 = .ok (.bipush 12, 2) := by decide +kernel
theorem dX8_bestPhase_25 : decode cX8_bestPhase 25 = .ok (.if_icmp .ge 60, 3) := by decide +kernel
theorem dX8_bestPhase_28 : decode cX8_bestPhase 28 = .ok (.aload_n 0, 1) := by decide +kernel
theorem dX8_bestPhase_29 : decode cX8_bestPhase 29 = .ok (.iload_n 1, 1) := by decide +kernel
theorem dX8_bestPhase_30 : decode cX8_bestPhase 30 = .ok (.iconst 0, 1) := by decide +kernel
theorem dX8_bestPhase_31 : decode cX8_bestPhase 31 = .ok (.iload 4, 2) := by decide +kernel
theorem dX8_bestPhase_33 : decode cX8_bestPhase 33 = .ok (.invokevirtual 43, 3) := by decide +kernel
theorem dX8_bestPhase_36 : decode cX8_bestPhase 36 = .ok (.aload_n 0, 1) := by decide +kernel
theorem dX8_bestPhase_37 : decode cX8_bestPhase 37 = .ok (.iconst 4, 1) := by decide +kernel
theorem dX8_bestPhase_38 : decode cX8_bestPhase 38 = .ok (.invokevirtual 136, 3) := by decide +kernel
theorem dX8_bestPhase_41 : decode cX8_bestPhase 41 = .ok (.istore 5, 2) := by decide +kernel
theorem dX8_bestPhase_43 : decode cX8_bestPhase 43 = .ok (.aload_n 0, 1) := by decide +kernel
theorem dX8_bestPhase_44 : decode cX8_bestPhase 44 = .ok (.invokevirtual 139, 3) := by decide +kernel
theorem dX8_bestPhase_47 : decode cX8_bestPhase 47 = .ok (.aload_n 0, 1) := by decide +kernel
theorem dX8_bestPhase_48 : decode cX8_bestPhase 48 = .ok (.iconst 4, 1) := by decide +kernel
theorem dX8_bestPhase_49 : decode cX8_bestPhase 49 = .ok (.invokevirtual 136, 3) := by decide +kernel
theorem dX8_bestPhase_52 : decode cX8_bestPhase 52 = .ok (.iload 5, 2) := by decide +kernel
theorem dX8_bestPhase_54 : decode cX8_bestPhase 54 = .ok (.isub, 1) := by decide +kernel
theorem dX8_bestPhase_55 : decode cX8_bestPhase 55 = .ok (.istore 6, 2) := by decide +kernel
theorem dX8_bestPhase_57 : decode cX8_bestPhase 57 = .ok (.iload_n 2, 1) := by decide +kernel
theorem dX8_bestPhase_58 : decode cX8_bestPhase 58 = .ok (.bipush (-5), 2) := by decide +kernel
theorem dX8_bestPhase_60 : decode cX8_bestPhase 60 = .ok (.if_icmp .eq 9, 3) := by decide +kernel
theorem dX8_bestPhase_63 : decode cX8_bestPhase 63 = .ok (.iload 6, 2) := by decide +kernel
theorem dX8_bestPhase_65 : decode cX8_bestPhase 65 = .ok (.iload_n 3, 1) := by decide +kernel
theorem dX8_bestPhase_66 : decode cX8_bestPhase 66 = .ok (.if_icmp .le 9, 3) := by decide +kernel
theorem dX8_bestPhase_69 : decode cX8_bestPhase 69 = .ok (.iload 4, 2) := by decide +kernel
theorem dX8_bestPhase_71 : decode cX8_bestPhase 71 = .ok (.istore_n 2, 1) := by decide +kernel
theorem dX8_bestPhase_72 : decode cX8_bestPhase 72 = .ok (.iload 6, 2) := by decide +kernel
theorem dX8_bestPhase_74 : decode cX8_bestPhase 74 = .ok (.istore_n 3, 1) := by decide +kernel
theorem dX8_bestPhase_75 : decode cX8_bestPhase 75 = .ok (.aload_n 0, 1) := by decide +kernel
theorem dX8_bestPhase_76 : decode cX8_bestPhase 76 = .ok (.invokevirtual 181, 3) := by decide +kernel
theorem dX8_bestPhase_79 : decode cX8_bestPhase 79 = .ok (.iinc 4 1, 3) := by decide +kernel
theorem dX8_bestPhase_82 : decode cX8_bestPhase 82 = .ok (.goto (-61), 3) := by decide +kernel
theorem dX8_bestPhase_85 : decode cX8_bestPhase 85 = .ok (.iload_n 2, 1) := by decide +kernel
theorem dX8_bestPhase_86 : decode cX8_bestPhase 86 = .ok (.ireturn, 1) := by decide +kernel
theorem dJ6_bitCount_0f7a4_0 : decode cJ6_bitCount_0f7a4 0 = .ok (.iload_n 0, 1) := by decide +kernel
theorem dJ6_bitCount_0f7a4_1 : decode cJ6_bitCount_0f7a4 1 = .ok (.iload_n 0, 1) := by decide +kernel
theorem dJ6_bitCount_0f7a4_2 : decode cJ6_bitCount_0f7a4 2 = .ok (.iconst 1, 1) := by decide +kernel
theorem dJ6_bitCount_0f7a4_3 : decode cJ6_bitCount_0f7a4 3 = .ok (.iushr, 1) := by decide +kernel
theorem dJ6_bitCount_0f7a4_4 : decode cJ6_bitCount_0f7a4 4 = .ok (.ldc_w 265, 3) := by decide +kernel
theorem dJ6_bitCount_0f7a4_7 : decode cJ6_bitCount_0f7a4 7 = .ok (.iand, 1) := by decide +kernel
theorem dJ6_bitCount_0f7a4_8 : decode cJ6_bitCount_0f7a4 8 = .ok (.isub, 1) := by decide +kernel
theorem dJ6_bitCount_0f7a4_9 : decode cJ6_bitCount_0f7a4 9 = .ok (.istore_n 0, 1) := by decide +kernel
theorem dJ6_bitCount_0f7a4_10 : decode cJ6_bitCount_0f7a4 10 = .ok (.iload_n 0, 1) := by decide +kernel
theorem dJ6_bitCount_0f7a4_11 : decode cJ6_bitCount_0f7a4 11 = .ok (.ldc_w 266, 3) := by decide +kernel
theorem dJ6_bitCount_0f7a4_14 : decode cJ6_bitCount_0f7a4 14 = .ok (.iand, 1) := by decide +kernel
theorem dJ6_bitCount_0f7a4_15 : decode cJ6_bitCount_0f7a4 15 = .ok (.iload_n 0, 1) := by decide +kernel
theorem dJ6_bitCount_0f7a4_16 : decode cJ6_bitCount_0f7a4 16 = .ok (.iconst 2, 1) := by decide +kernel
theorem dJ6_bitCount_0f7a4_17 : decode cJ6_bitCount_0f7a4 17 = .ok (.iushr, 1) := by decide +kernel
theorem dJ6_bitCount_0f7a4_18 : decode cJ6_bitCount_0f7a4 18 = .ok (.ldc_w 266, 3) := by decide +kernel
theorem dJ6_bitCount_0f7a4_21 : decode cJ6_bitCount_0f7a4 21 = .ok (.iand, 1) := by decide +kernel
theorem dJ6_bitCount_0f7a4_22 : decode cJ6_bitCount_0f7a4 22 = .ok (.iadd, 1) := by decide +kernel
theorem dJ6_bitCount_0f7a4_23 : decode cJ6_bitCount_0f7a4 23 = .ok (.istore_n 0, 1) := by decide +kernel
theorem dJ6_bitCount_0f7a4_24 : decode cJ6_bitCount_0f7a4 24 = .ok (.iload_n 0, 1) := by decide +kernel
theorem dJ6_bitCount_0f7a4_25 : decode cJ6_bitCount_0f7a4 25 = .ok (.iload_n 0, 1) := by decide +kernel
theorem dJ6_bitCount_0f7a4_26 : decode cJ6_bitCount_0f7a4 26 = .ok (.iconst 4, 1) := by decide +kernel
theorem dJ6_bitCount_0f7a4_27 : decode cJ6_bitCount_0f7a4 27 = .ok (.iushr, 1) := by decide +kernel
theorem dJ6_bitCount_0f7a4_28 : decode cJ6_bitCount_0f7a4 28 = .ok (.iadd, 1) := by decide +kernel
theorem dJ6_bitCount_0f7a4_29 : decode cJ6_bitCount_0f7a4 29 = .ok (.ldc_w 267, 3) := by decide +kernel
theorem dJ6_bitCount_0f7a4_32 : decode cJ6_bitCount_0f7a4 32 = .ok (.iand, 1) := by decide +kernel
theorem dJ6_bitCount_0f7a4_33 : decode cJ6_bitCount_0f7a4 33 = .ok (.istore_n 0, 1) := by decide +kernel
theorem dJ6_bitCount_0f7a4_34 : decode cJ6_bitCount_0f7a4 34 = .ok (.iload_n 0, 1) := by decide +kernel
theorem dJ6_bitCount_0f7a4_35 : decode cJ6_bitCount_0f7a4 35 = .ok (.iload_n 0, 1) := by decide +kernel
theorem dJ6_bitCount_0f7a4_36 : decode cJ6_bitCount_0f7a4 36 = .ok (.bipush 8, 2) := by decide +kernel
theorem dJ6_bitCount_0f7a4_38 : decode cJ6_bitCount_0f7a4 38 = .ok (.iushr, 1) := by decide +kernel
theorem dJ6_bitCount_0f7a4_39 : decode cJ6_bitCount_0f7a4 39 = .ok (.iadd, 1) := by decide +kernel
theorem dJ6_bitCount_0f7a4_40 : decode cJ6_bitCount_0f7a4 40 = .ok (.istore_n 0, 1) := by decide +kernel
theorem dJ6_bitCount_0f7a4_41 : decode cJ6_bitCount_0f7a4 41 = .ok (.iload_n 0, 1) := by decide +kernel
theorem dJ6_bitCount_0f7a4_42 : decode cJ6_bitCount_0f7a4 42 = .ok (.iload_n 0, 1) := by decide +kernel
theorem dJ6_bitCount_0f7a4_43 : decode cJ6_bitCount_0f7a4 43 = .ok (.bipush 16, 2) := by decide +kernel
theorem dJ6_bitCount_0f7a4_45 : decode cJ6_bitCount_0f7a4 45 = .ok (.iushr, 1) := by decide +kernel
theorem dJ6_bitCount_0f7a4_46 : decode cJ6_bitCount_0f7a4 46 = .ok (.iadd, 1) := by decide +kernel
theorem dJ6_bitCount_0f7a4_47 : decode cJ6_bitCount_0f7a4 47 = .ok (.istore_n 0, 1) := by decide +kernel
theorem dJ6_bitCount_0f7a4_48 : decode cJ6_bitCount_0f7a4 48 = .ok (.iload_n 0, 1) := by decide +kernel
theorem dJ6_bitCount_0f7a4_49 : decode cJ6_bitCount_0f7a4 49 = .ok (.bipush 63, 2) := by decide +kernel
theorem dJ6_bitCount_0f7a4_51 : decode cJ6_bitCount_0f7a4 51 = .ok (.iand, 1) := by decide +kernel
theorem dJ6_bitCount_0f7a4_52 : decode cJ6_bitCount_0f7a4 52 = .ok (.ireturn, 1) := by decide +kernel
theorem dJ9_abs_0f7a4_0 : decode cJ9_abs_0f7a4 0 = .ok (.iload_n 0, 1) := by decide +kernel
theorem dJ9_abs_0f7a4_1 : decode cJ9_abs_0f7a4 1 = .ok (.ifCond .ge 8, 3) := by decide +kernel
theorem dJ9_abs_0f7a4_4 : decode cJ9_abs_0f7a4 4 = .ok (.iload_n 0, 1) := by decide +kernel
theorem dJ9_abs_0f7a4_5 : decode cJ9_abs_0f7a4 5 = .ok (.ineg, 1) := by decide +kernel
theorem dJ9_abs_0f7a4_6 : decode cJ9_abs_0f7a4 6 = .ok (.goto 4, 3) := by decide +kernel
theorem dJ9_abs_0f7a4_9 : decode cJ9_abs_0f7a4 9 = .ok (.iload_n 0, 1) := by decide +kernel
theorem dJ9_abs_0f7a4_10 : decode cJ9_abs_0f7a4 10 = .ok (.ireturn, 1) := by decide +kernel
theorem dL_law_0 : decode cL_law 0 = .ok (.new 7, 3) := by decide +kernel
theorem dL_law_3 : decode cL_law 3 = .ok (.dup, 1) := by decide +kernel
theorem dL_law_4 : decode cL_law 4 = .ok (.invokespecial 9, 3) := by decide +kernel
theorem dL_law_7 : decode cL_law 7 = .ok (.astore_n 1, 1) := by decide +kernel
theorem dL_law_8 : decode cL_law 8 = .ok (.new 10, 3) := by decide +kernel
theorem dL_law_11 : decode cL_law 11 = .ok (.dup, 1) := by decide +kernel
theorem dL_law_12 : decode cL_law 12 = .ok (.invokespecial 12, 3) := by decide +kernel
theorem dL_law_15 : decode cL_law 15 = .ok (.astore_n 2, 1) := by decide +kernel
theorem dL_law_16 : decode cL_law 16 = .ok (.iconst 0, 1) := by decide +kernel
theorem dL_law_17 : decode cL_law 17 = .ok (.istore_n 3, 1) := by decide +kernel
theorem dL_law_18 : decode cL_law 18 = .ok (.iload_n 3, 1) := by decide +kernel
theorem dL_law_19 : decode cL_law 19 = .ok (.aload_n 0, 1) := by decide +kernel
theorem dL_law_20 : decode cL_law 20 = .ok (.arraylength, 1) := by decide +kernel
theorem dL_law_21 : decode cL_law 21 = .ok (.iconst 4, 1) := by decide +kernel
theorem dL_law_22 : decode cL_law 22 = .ok (.isub, 1) := by decide +kernel
theorem dL_law_23 : decode cL_law 23 = .ok (.if_icmp .gt 724, 3) := by decide +kernel
theorem dL_law_26 : decode cL_law 26 = .ok (.aload_n 0, 1) := by decide +kernel
theorem dL_law_27 : decode cL_law 27 = .ok (.iload_n 3, 1) := by decide +kernel
theorem dL_law_28 : decode cL_law 28 = .ok (.iaload, 1) := by decide +kernel
theorem dL_law_29 : decode cL_law 29 = .ok (.bipush 31, 2) := by decide +kernel
theorem dL_law_31 : decode cL_law 31 = .ok (.iand, 1) := by decide +kernel
theorem dL_law_32 : decode cL_law 32 = .ok (.tableswitch 709 0 22 #[108, 151, 164, 187, 220, 243, 266, 291, 304, 317, 330, 343, 356, 389, 432, 475, 508, 541, 574, 597, 640, 663, 686], 108) := by decide +kernel
theorem dL_law_140 : decode cL_law 140 = .ok (.aload_n 1, 1) := by decide +kernel
theorem dL_law_141 : decode cL_law 141 = .ok (.aload_n 0, 1) := by decide +kernel
theorem dL_law_142 : decode cL_law 142 = .ok (.iload_n 3, 1) := by decide +kernel
theorem dL_law_143 : decode cL_law 143 = .ok (.iconst 1, 1) := by decide +kernel
theorem dL_law_144 : decode cL_law 144 = .ok (.iadd, 1) := by decide +kernel
theorem dL_law_145 : decode cL_law 145 = .ok (.iaload, 1) := by decide +kernel
theorem dL_law_146 : decode cL_law 146 = .ok (.aload_n 0, 1) := by decide +kernel
theorem dL_law_147 : decode cL_law 147 = .ok (.iload_n 3, 1) := by decide +kernel
theorem dL_law_148 : decode cL_law 148 = .ok (.iconst 2, 1) := by decide +kernel
theorem dL_law_149 : decode cL_law 149 = .ok (.iadd, 1) := by decide +kernel
theorem dL_law_150 : decode cL_law 150 = .ok (.iaload, 1) := by decide +kernel
theorem dL_law_151 : decode cL_law 151 = .ok (.aload_n 0, 1) := by decide +kernel
theorem dL_law_152 : decode cL_law 152 = .ok (.iload_n 3, 1) := by decide +kernel
theorem dL_law_153 : decode cL_law 153 = .ok (.iconst 3, 1) := by decide +kernel
theorem dL_law_154 : decode cL_law 154 = .ok (.iadd, 1) := by decide +kernel
theorem dL_law_155 : decode cL_law 155 = .ok (.iaload, 1) := by decide +kernel
theorem dL_law_156 : decode cL_law 156 = .ok (.invokevirtual 13, 3) := by decide +kernel
theorem dL_law_159 : decode cL_law 159 = .ok (.aload_n 2, 1) := by decide +kernel
theorem dL_law_160 : decode cL_law 160 = .ok (.aload_n 0, 1) := by decide +kernel
theorem dL_law_161 : decode cL_law 161 = .ok (.iload_n 3, 1) := by decide +kernel
theorem dL_law_162 : decode cL_law 162 = .ok (.iconst 1, 1) := by decide +kernel
theorem dL_law_163 : decode cL_law 163 = .ok (.iadd, 1) := by decide +kernel
theorem dL_law_164 : decode cL_law 164 = .ok (.iaload, 1) := by decide +kernel
theorem dL_law_165 : decode cL_law 165 = .ok (.aload_n 0, 1) := by decide +kernel
theorem dL_law_166 : decode cL_law 166 = .ok (.iload_n 3, 1) := by decide +kernel
theorem dL_law_167 : decode cL_law 167 = .ok (.iconst 2, 1) := by decide +kernel
theorem dL_law_168 : decode cL_law 168 = .ok (.iadd, 1) := by decide +kernel
theorem dL_law_169 : decode cL_law 169 = .ok (.iaload, 1) := by decide +kernel
theorem dL_law_170 : decode cL_law 170 = .ok (.aload_n 0, 1) := by decide +kernel
theorem dL_law_171 : decode cL_law 171 = .ok (.iload_n 3, 1) := by decide +kernel
theorem dL_law_172 : decode cL_law 172 = .ok (.iconst 3, 1) := by decide +kernel
theorem dL_law_173 : decode cL_law 173 = .ok (.iadd, 1) := by decide +kernel
theorem dL_law_174 : decode cL_law 174 = .ok (.iaload, 1) := by decide +kernel
theorem dL_law_175 : decode cL_law 175 = .ok (.invokevirtual 17, 3) := by decide +kernel
theorem dL_law_178 : decode cL_law 178 = .ok (.if_icmp .eq 563, 3) := by decide +kernel
theorem dL_law_181 : decode cL_law 181 = .ok (.iconst 0, 1) := by decide +kernel
theorem dL_law_182 : decode cL_law 182 = .ok (.ireturn, 1) := by decide +kernel
theorem dL_law_183 : decode cL_law 183 = .ok (.aload_n 1, 1) := by decide +kernel
theorem dL_law_184 : decode cL_law 184 = .ok (.invokevirtual 18, 3) := by decide +kernel
theorem dL_law_187 : decode cL_law 187 = .ok (.aload_n 2, 1) := by decide +kernel
theorem dL_law_188 : decode cL_law 188 = .ok (.invokevirtual 22, 3) := by decide +kernel
theorem dL_law_191 : decode cL_law 191 = .ok (.if_icmp .eq 550, 3) := by decide +kernel
theorem dL_law_194 : decode cL_law 194 = .ok (.iconst 0, 1) := by decide +kernel
theorem dL_law_195 : decode cL_law 195 = .ok (.ireturn, 1) := by decide +kernel
theorem dL_law_196 : decode cL_law 196 = .ok (.aload_n 1, 1) := by decide +kernel
theorem dL_law_197 : decode cL_law 197 = .ok (.aload_n 0, 1) := by decide +kernel
theorem dL_law_198 : decode cL_law 198 = .ok (.iload_n 3, 1) := by decide +kernel
theorem dL_law_199 : decode cL_law 199 = .ok (.iconst 1, 1) := by decide +kernel
theorem dL_law_200 : decode cL_law 200 = .ok (.iadd, 1) := by decide +kernel
theorem dL_law_201 : decode cL_law 201 = .ok (.iaload, 1) := by decide +kernel
theorem dL_law_202 : decode cL_law 202 = .ok (.invokevirtual 23, 3) := by decide +kernel
theorem dL_law_205 : decode cL_law 205 = .ok (.aload_n 2, 1) := by decide +kernel
theorem dL_law_206 : decode cL_law 206 = .ok (.aload_n 0, 1) := by decide +kernel
theorem dL_law_207 : decode cL_law 207 = .ok (.iload_n 3, 1) := by decide +kernel
theorem dL_law_208 : decode cL_law 208 = .ok (.iconst 1, 1) := by decide +kernel
theorem dL_law_209 : decode cL_law 209 = .ok (.iadd, 1) := by decide +kernel
theorem dL_law_210 : decode cL_law 210 = .ok (.iaload, 1) := by decide +kernel
theorem dL_law_211 : decode cL_law 211 = .ok (.invokevirtual 27, 3) := by decide +kernel
theorem dL_law_214 : decode cL_law 214 = .ok (.if_icmp .eq 527, 3) := by decide +kernel
theorem dL_law_217 : decode cL_law 217 = .ok (.iconst 0, 1) := by decide +kernel
theorem dL_law_218 : decode cL_law 218 = .ok (.ireturn, 1) := by decide +kernel
theorem dL_law_219 : decode cL_law 219 = .ok (.aload_n 1, 1) := by decide +kernel
theorem dL_law_220 : decode cL_law 220 = .ok (.aload_n 0, 1) := by decide +kernel
theorem dL_law_221 : decode cL_law 221 = .ok (.iload_n 3, 1) := by decide +kernel
theorem dL_law_222 : decode cL_law 222 = .ok (.iconst 1, 1) := by decide +kernel
theorem dL_law_223 : decode cL_law 223 = .ok (.iadd, 1) := by decide +kernel
theorem dL_law_224 : decode cL_law 224 = .ok (.iaload, 1) := by decide +kernel
theorem dL_law_225 : decode cL_law 225 = .ok (.aload_n 0, 1) := by decide +kernel
theorem dL_law_226 : decode cL_law 226 = .ok (.iload_n 3, 1) := by decide +kernel
theorem dL_law_227 : decode cL_law 227 = .ok (.iconst 2, 1) := by decide +kernel
theorem dL_law_228 : decode cL_law 228 = .ok (.iadd, 1) := by decide +kernel
theorem dL_law_229 : decode cL_law 229 = .ok (.iaload, 1) := by decide +kernel
theorem dL_law_230 : decode cL_law 230 = .ok (.invokevirtual 28, 3) := by decide +kernel
theorem dL_law_233 : decode cL_law 233 = .ok (.aload_n 2, 1) := by decide +kernel
theorem dL_law_234 : decode cL_law 234 = .ok (.aload_n 0, 1) := by decide +kernel
theorem dL_law_235 : decode cL_law 235 = .ok (.iload_n 3, 1) := by decide +kernel
theorem dL_law_236 : decode cL_law 236 = .ok (.iconst 1, 1) := by decide +kernel
theorem dL_law_237 : decode cL_law 237 = .ok (.iadd, 1) := by decide +kernel
theorem dL_law_238 : decode cL_law 238 = .ok (.iaload, 1) := by decide +kernel
theorem dL_law_239 : decode cL_law 239 = .ok (.aload_n 0, 1) := by decide +kernel
theorem dL_law_240 : decode cL_law 240 = .ok (.iload_n 3, 1) := by decide +kernel
theorem dL_law_241 : decode cL_law 241 = .ok (.iconst 2, 1) := by decide +kernel
theorem dL_law_242 : decode cL_law 242 = .ok (.iadd, 1) := by decide +kernel
theorem dL_law_243 : decode cL_law 243 = .ok (.iaload, 1) := by decide +kernel
theorem dL_law_244 : decode cL_law 244 = .ok (.invokevirtual 32, 3) := by decide +kernel
theorem dL_law_247 : decode cL_law 247 = .ok (.if_icmp .eq 494, 3) := by decide +kernel
theorem dL_law_250 : decode cL_law 250 = .ok (.iconst 0, 1) := by decide +kernel
theorem dL_law_251 : decode cL_law 251 = .ok (.ireturn, 1) := by decide +kernel
theorem dL_law_252 : decode cL_law 252 = .ok (.aload_n 1, 1) := by decide +kernel
theorem dL_law_253 : decode cL_law 253 = .ok (.aload_n 0, 1) := by decide +kernel
theorem dL_law_254 : decode cL_law 254 = .ok (.iload_n 3, 1) := by decide +kernel
theorem dL_law_255 : decode cL_law 255 = .ok (.iconst 1, 1) := by decide +kernel
theorem dL_law_256 : decode cL_law 256 = .ok (.iadd, 1) := by decide +kernel
theorem dL_law_257 : decode cL_law 257 = .ok (.iaload, 1) := by decide +kernel
theorem dL_law_258 : decode cL_law 258 = .ok (.invokevirtual 33, 3) := by decide +kernel
theorem dL_law_261 : decode cL_law 261 = .ok (.aload_n 2, 1) := by decide +kernel
theorem dL_law_262 : decode cL_law 262 = .ok (.aload_n 0, 1) := by decide +kernel
theorem dL_law_263 : decode cL_law 263 = .ok (.iload_n 3, 1) := by decide +kernel
theorem dL_law_264 : decode cL_law 264 = .ok (.iconst 1, 1) := by decide +kernel
theorem dL_law_265 : decode cL_law 265 = .ok (.iadd, 1) := by decide +kernel
theorem dL_law_266 : decode cL_law 266 = .ok (.iaload, 1) := by decide +kernel
theorem dL_law_267 : decode cL_law 267 = .ok (.invokevirtual 36, 3) := by decide +kernel
theorem dL_law_270 : decode cL_law 270 = .ok (.if_icmp .eq 471, 3) := by decide +kernel
theorem dL_law_273 : decode cL_law 273 = .ok (.iconst 0, 1) := by decide +kernel
theorem dL_law_274 : decode cL_law 274 = .ok (.ireturn, 1) := by decide +kernel
theorem dL_law_275 : decode cL_law 275 = .ok (.aload_n 1, 1) := by decide +kernel
theorem dL_law_276 : decode cL_law 276 = .ok (.aload_n 0, 1) := by decide +kernel
theorem dL_law_277 : decode cL_law 277 = .ok (.iload_n 3, 1) := by decide +kernel
theorem dL_law_278 : decode cL_law 278 = .ok (.iconst 1, 1) := by decide +kernel
theorem dL_law_279 : decode cL_law 279 = .ok (.iadd, 1) := by decide +kernel
theorem dL_law_280 : decode cL_law 280 = .ok (.iaload, 1) := by decide +kernel
theorem dL_law_281 : decode cL_law 281 = .ok (.invokevirtual 37, 3) := by decide +kernel
theorem dL_law_284 : decode cL_law 284 = .ok (.aload_n 2, 1) := by decide +kernel
theorem dL_law_285 : decode cL_law 285 = .ok (.aload_n 0, 1) := by decide +kernel
theorem dL_law_286 : decode cL_law 286 = .ok (.iload_n 3, 1) := by decide +kernel
theorem dL_law_287 : decode cL_law 287 = .ok (.iconst 1, 1) := by decide +kernel
theorem dL_law_288 : decode cL_law 288 = .ok (.iadd, 1) := by decide +kernel
theorem dL_law_289 : decode cL_law 289 = .ok (.iaload, 1) := by decide +kernel
theorem dL_law_290 : decode cL_law 290 = .ok (.invokevirtual 40, 3) := by decide +kernel
theorem dL_law_293 : decode cL_law 293 = .ok (.if_icmp .eq 448, 3) := by decide +kernel
theorem dL_law_296 : decode cL_law 296 = .ok (.iconst 0, 1) := by decide +kernel
theorem dL_law_297 : decode cL_law 297 = .ok (.ireturn, 1) := by decide +kernel
theorem dL_law_298 : decode cL_law 298 = .ok (.aload_n 1, 1) := by decide +kernel
theorem dL_law_299 : decode cL_law 299 = .ok (.aload_n 0, 1) := by decide +kernel
theorem dL_law_300 : decode cL_law 300 = .ok (.iload_n 3, 1) := by decide +kernel
theorem dL_law_301 : decode cL_law 301 = .ok (.iconst 1, 1) := by decide +kernel
theorem dL_law_302 : decode cL_law 302 = .ok (.iadd, 1) := by decide +kernel
theorem dL_law_303 : decode cL_law 303 = .ok (.iaload, 1) := by decide +kernel
theorem dL_law_304 : decode cL_law 304 = .ok (.i2c, 1) := by decide +kernel
theorem dL_law_305 : decode cL_law 305 = .ok (.invokevirtual 41, 3) := by decide +kernel
theorem dL_law_308 : decode cL_law 308 = .ok (.aload_n 2, 1) := by decide +kernel
theorem dL_law_309 : decode cL_law 309 = .ok (.aload_n 0, 1) := by decide +kernel
theorem dL_law_310 : decode cL_law 310 = .ok (.iload_n 3, 1) := by decide +kernel
theorem dL_law_311 : decode cL_law 311 = .ok (.iconst 1, 1) := by decide +kernel
theorem dL_law_312 : decode cL_law 312 = .ok (.iadd, 1) := by decide +kernel
theorem dL_law_313 : decode cL_law 313 = .ok (.iaload, 1) := by decide +kernel
theorem dL_law_314 : decode cL_law 314 = .ok (.i2c, 1) := by decide +kernel
theorem dL_law_315 : decode cL_law 315 = .ok (.invokevirtual 45, 3) := by decide +kernel
theorem dL_law_318 : decode cL_law 318 = .ok (.if_icmp .eq 423, 3) := by decide +kernel
theorem dL_law_321 : decode cL_law 321 = .ok (.iconst 0, 1) := by decide +kernel
theorem dL_law_322 : decode cL_law 322 = .ok (.ireturn, 1) := by decide +kernel
theorem dL_law_323 : decode cL_law 323 = .ok (.aload_n 1, 1) := by decide +kernel
theorem dL_law_324 : decode cL_law 324 = .ok (.invokevirtual 46, 3) := by decide +kernel
theorem dL_law_327 : decode cL_law 327 = .ok (.aload_n 2, 1) := by decide +kernel
theorem dL_law_328 : decode cL_law 328 = .ok (.invokevirtual 49, 3) := by decide +kernel
theorem dL_law_331 : decode cL_law 331 = .ok (.if_icmp .eq 410, 3) := by decide +kernel
theorem dL_law_334 : decode cL_law 334 = .ok (.iconst 0, 1) := by decide +kernel
theorem dL_law_335 : decode cL_law 335 = .ok (.ireturn, 1) := by decide +kernel
theorem dL_law_336 : decode cL_law 336 = .ok (.aload_n 1, 1) := by decide +kernel
theorem dL_law_337 : decode cL_law 337 = .ok (.invokevirtual 50, 3) := by decide +kernel
theorem dL_law_340 : decode cL_law 340 = .ok (.aload_n 2, 1) := by decide +kernel
theorem dL_law_341 : decode cL_law 341 = .ok (.invokevirtual 53, 3) := by decide +kernel
theorem dL_law_344 : decode cL_law 344 = .ok (.if_icmp .eq 397, 3) := by decide +kernel
theorem dL_law_347 : decode cL_law 347 = .ok (.iconst 0, 1) := by decide +kernel
theorem dL_law_348 : decode cL_law 348 = .ok (.ireturn, 1) := by decide +kernel
theorem dL_law_349 : decode cL_law 349 = .ok (.aload_n 1, 1) := by decide +kernel
theorem dL_law_350 : decode cL_law 350 = .ok (.invokevirtual 54, 3) := by decide +kernel
theorem dL_law_353 : decode cL_law 353 = .ok (.aload_n 2, 1) := by decide +kernel
theorem dL_law_354 : decode cL_law 354 = .ok (.invokevirtual 57, 3) := by decide +kernel
theorem dL_law_357 : decode cL_law 357 = .ok (.if_icmp .eq 384, 3) := by decide +kernel
theorem dL_law_360 : decode cL_law 360 = .ok (.iconst 0, 1) := by decide +kernel
theorem dL_law_361 : decode cL_law 361 = .ok (.ireturn, 1) := by decide +kernel
theorem dL_law_362 : decode cL_law 362 = .ok (.aload_n 1, 1) := by decide +kernel
theorem dL_law_363 : decode cL_law 363 = .ok (.invokevirtual 58, 3) := by decide +kernel
theorem dL_law_366 : decode cL_law 366 = .ok (.aload_n 2, 1) := by decide +kernel
theorem dL_law_367 : decode cL_law 367 = .ok (.invokevirtual 61, 3) := by decide +kernel
theorem dL_law_370 : decode cL_law 370 = .ok (.if_icmp .eq 371, 3) := by decide +kernel
theorem dL_law_373 : decode cL_law 373 = .ok (.iconst 0, 1) := by decide +kernel
theorem dL_law_374 : decode cL_law 374 = .ok (.ireturn, 1) := by decide +kernel
theorem dL_law_375 : decode cL_law 375 = .ok (.aload_n 1, 1) := by decide +kernel
theorem dL_law_376 : decode cL_law 376 = .ok (.invokevirtual 62, 3) := by decide +kernel
theorem dL_law_379 : decode cL_law 379 = .ok (.aload_n 2, 1) := by decide +kernel
theorem dL_law_380 : decode cL_law 380 = .ok (.invokevirtual 65, 3) := by decide +kernel
theorem dL_law_383 : decode cL_law 383 = .ok (.if_icmp .eq 358, 3) := by decide +kernel
theorem dL_law_386 : decode cL_law 386 = .ok (.iconst 0, 1) := by decide +kernel
theorem dL_law_387 : decode cL_law 387 = .ok (.ireturn, 1) := by decide +kernel
theorem dL_law_388 : decode cL_law 388 = .ok (.aload_n 1, 1) := by decide +kernel
theorem dL_law_389 : decode cL_law 389 = .ok (.aload_n 0, 1) := by decide +kernel
theorem dL_law_390 : decode cL_law 390 = .ok (.iload_n 3, 1) := by decide +kernel
theorem dL_law_391 : decode cL_law 391 = .ok (.iconst 1, 1) := by decide +kernel
theorem dL_law_392 : decode cL_law 392 = .ok (.iadd, 1) := by decide +kernel
theorem dL_law_393 : decode cL_law 393 = .ok (.iaload, 1) := by decide +kernel
theorem dL_law_394 : decode cL_law 394 = .ok (.aload_n 0, 1) := by decide +kernel
theorem dL_law_395 : decode cL_law 395 = .ok (.iload_n 3, 1) := by decide +kernel
theorem dL_law_396 : decode cL_law 396 = .ok (.iconst 2, 1) := by decide +kernel
theorem dL_law_397 : decode cL_law 397 = .ok (.iadd, 1) := by decide +kernel
theorem dL_law_398 : decode cL_law 398 = .ok (.iaload, 1) := by decide +kernel
theorem dL_law_399 : decode cL_law 399 = .ok (.invokevirtual 66, 3) := by decide +kernel
theorem dL_law_402 : decode cL_law 402 = .ok (.aload_n 2, 1) := by decide +kernel
theorem dL_law_403 : decode cL_law 403 = .ok (.aload_n 0, 1) := by decide +kernel
theorem dL_law_404 : decode cL_law 404 = .ok (.iload_n 3, 1) := by decide +kernel
theorem dL_law_405 : decode cL_law 405 = .ok (.iconst 1, 1) := by decide +kernel
theorem dL_law_406 : decode cL_law 406 = .ok (.iadd, 1) := by decide +kernel
theorem dL_law_407 : decode cL_law 407 = .ok (.iaload, 1) := by decide +kernel
theorem dL_law_408 : decode cL_law 408 = .ok (.aload_n 0, 1) := by decide +kernel
theorem dL_law_409 : decode cL_law 409 = .ok (.iload_n 3, 1) := by decide +kernel
theorem dL_law_410 : decode cL_law 410 = .ok (.iconst 2, 1) := by decide +kernel
theorem dL_law_411 : decode cL_law 411 = .ok (.iadd, 1) := by decide +kernel
theorem dL_law_412 : decode cL_law 412 = .ok (.iaload, 1) := by decide +kernel
theorem dL_law_413 : decode cL_law 413 = .ok (.invokevirtual 69, 3) := by decide +kernel
theorem dL_law_416 : decode cL_law 416 = .ok (.if_icmp .eq 325, 3) := by decide +kernel
theorem dL_law_419 : decode cL_law 419 = .ok (.iconst 0, 1) := by decide +kernel
theorem dL_law_420 : decode cL_law 420 = .ok (.ireturn, 1) := by decide +kernel
theorem dL_law_421 : decode cL_law 421 = .ok (.aload_n 1, 1) := by decide +kernel
theorem dL_law_422 : decode cL_law 422 = .ok (.aload_n 0, 1) := by decide +kernel
theorem dL_law_423 : decode cL_law 423 = .ok (.iload_n 3, 1) := by decide +kernel
theorem dL_law_424 : decode cL_law 424 = .ok (.iconst 1, 1) := by decide +kernel
theorem dL_law_425 : decode cL_law 425 = .ok (.iadd, 1) := by decide +kernel
theorem dL_law_426 : decode cL_law 426 = .ok (.iaload, 1) := by decide +kernel
theorem dL_law_427 : decode cL_law 427 = .ok (.aload_n 0, 1) := by decide +kernel
theorem dL_law_428 : decode cL_law 428 = .ok (.iload_n 3, 1) := by decide +kernel
theorem dL_law_429 : decode cL_law 429 = .ok (.iconst 2, 1) := by decide +kernel
theorem dL_law_430 : decode cL_law 430 = .ok (.iadd, 1) := by decide +kernel
theorem dL_law_431 : decode cL_law 431 = .ok (.iaload, 1) := by decide +kernel
theorem dL_law_432 : decode cL_law 432 = .ok (.aload_n 0, 1) := by decide +kernel
theorem dL_law_433 : decode cL_law 433 = .ok (.iload_n 3, 1) := by decide +kernel
theorem dL_law_434 : decode cL_law 434 = .ok (.iconst 3, 1) := by decide +kernel
theorem dL_law_435 : decode cL_law 435 = .ok (.iadd, 1) := by decide +kernel
theorem dL_law_436 : decode cL_law 436 = .ok (.iaload, 1) := by decide +kernel
theorem dL_law_437 : decode cL_law 437 = .ok (.invokevirtual 70, 3) := by decide +kernel
theorem dL_law_440 : decode cL_law 440 = .ok (.aload_n 2, 1) := by decide +kernel
theorem dL_law_441 : decode cL_law 441 = .ok (.aload_n 0, 1) := by decide +kernel
theorem dL_law_442 : decode cL_law 442 = .ok (.iload_n 3, 1) := by decide +kernel
theorem dL_law_443 : decode cL_law 443 = .ok (.iconst 1, 1) := by decide +kernel
theorem dL_law_444 : decode cL_law 444 = .ok (.iadd, 1) := by decide +kernel
theorem dL_law_445 : decode cL_law 445 = .ok (.iaload, 1) := by decide +kernel
theorem dL_law_446 : decode cL_law 446 = .ok (.aload_n 0, 1) := by decide +kernel
theorem dL_law_447 : decode cL_law 447 = .ok (.iload_n 3, 1) := by decide +kernel
theorem dL_law_448 : decode cL_law 448 = .ok (.iconst 2, 1) := by decide +kernel
theorem dL_law_449 : decode cL_law 449 = .ok (.iadd, 1) := by decide +kernel
theorem dL_law_450 : decode cL_law 450 = .ok (.iaload, 1) := by decide +kernel
theorem dL_law_451 : decode cL_law 451 = .ok (.aload_n 0, 1) := by decide +kernel
theorem dL_law_452 : decode cL_law 452 = .ok (.iload_n 3, 1) := by decide +kernel
theorem dL_law_453 : decode cL_law 453 = .ok (.iconst 3, 1) := by decide +kernel
theorem dL_law_454 : decode cL_law 454 = .ok (.iadd, 1) := by decide +kernel
theorem dL_law_455 : decode cL_law 455 = .ok (.iaload, 1) := by decide +kernel
theorem dL_law_456 : decode cL_law 456 = .ok (.invokevirtual 73, 3) := by decide +kernel
theorem dL_law_459 : decode cL_law 459 = .ok (.if_icmp .eq 282, 3) := by decide +kernel
theorem dL_law_462 : decode cL_law 462 = .ok (.iconst 0, 1) := by decide +kernel
theorem dL_law_463 : decode cL_law 463 = .ok (.ireturn, 1) := by decide +kernel
theorem dL_law_464 : decode cL_law 464 = .ok (.aload_n 1, 1) := by decide +kernel
theorem dL_law_465 : decode cL_law 465 = .ok (.aload_n 0, 1) := by decide +kernel
theorem dL_law_466 : decode cL_law 466 = .ok (.iload_n 3, 1) := by decide +kernel
theorem dL_law_467 : decode cL_law 467 = .ok (.iconst 1, 1) := by decide +kernel
theorem dL_law_468 : decode cL_law 468 = .ok (.iadd, 1) := by decide +kernel
theorem dL_law_469 : decode cL_law 469 = .ok (.iaload, 1) := by decide +kernel
theorem dL_law_470 : decode cL_law 470 = .ok (.aload_n 0, 1) := by decide +kernel
theorem dL_law_471 : decode cL_law 471 = .ok (.iload_n 3, 1) := by decide +kernel
theorem dL_law_472 : decode cL_law 472 = .ok (.iconst 2, 1) := by decide +kernel
theorem dL_law_473 : decode cL_law 473 = .ok (.iadd, 1) := by decide +kernel
theorem dL_law_474 : decode cL_law 474 = .ok (.iaload, 1) := by decide +kernel
theorem dL_law_475 : decode cL_law 475 = .ok (.aload_n 0, 1) := by decide +kernel
theorem dL_law_476 : decode cL_law 476 = .ok (.iload_n 3, 1) := by decide +kernel
theorem dL_law_477 : decode cL_law 477 = .ok (.iconst 3, 1) := by decide +kernel
theorem dL_law_478 : decode cL_law 478 = .ok (.iadd, 1) := by decide +kernel
theorem dL_law_479 : decode cL_law 479 = .ok (.iaload, 1) := by decide +kernel
theorem dL_law_480 : decode cL_law 480 = .ok (.invokevirtual 74, 3) := by decide +kernel
theorem dL_law_483 : decode cL_law 483 = .ok (.aload_n 2, 1) := by decide +kernel
theorem dL_law_484 : decode cL_law 484 = .ok (.aload_n 0, 1) := by decide +kernel
theorem dL_law_485 : decode cL_law 485 = .ok (.iload_n 3, 1) := by decide +kernel
theorem dL_law_486 : decode cL_law 486 = .ok (.iconst 1, 1) := by decide +kernel
theorem dL_law_487 : decode cL_law 487 = .ok (.iadd, 1) := by decide +kernel
theorem dL_law_488 : decode cL_law 488 = .ok (.iaload, 1) := by decide +kernel
theorem dL_law_489 : decode cL_law 489 = .ok (.aload_n 0, 1) := by decide +kernel
theorem dL_law_490 : decode cL_law 490 = .ok (.iload_n 3, 1) := by decide +kernel
theorem dL_law_491 : decode cL_law 491 = .ok (.iconst 2, 1) := by decide +kernel
theorem dL_law_492 : decode cL_law 492 = .ok (.iadd, 1) := by decide +kernel
theorem dL_law_493 : decode cL_law 493 = .ok (.iaload, 1) := by decide +kernel
theorem dL_law_494 : decode cL_law 494 = .ok (.aload_n 0, 1) := by decide +kernel
theorem dL_law_495 : decode cL_law 495 = .ok (.iload_n 3, 1) := by decide +kernel
theorem dL_law_496 : decode cL_law 496 = .ok (.iconst 3, 1) := by decide +kernel
theorem dL_law_497 : decode cL_law 497 = .ok (.iadd, 1) := by decide +kernel
theorem dL_law_498 : decode cL_law 498 = .ok (.iaload, 1) := by decide +kernel
theorem dL_law_499 : decode cL_law 499 = .ok (.invokevirtual 77, 3) := by decide +kernel
theorem dL_law_502 : decode cL_law 502 = .ok (.if_icmp .eq 239, 3) := by decide +kernel
theorem dL_law_505 : decode cL_law 505 = .ok (.iconst 0, 1) := by decide +kernel
theorem dL_law_506 : decode cL_law 506 = .ok (.ireturn, 1) := by decide +kernel
theorem dL_law_507 : decode cL_law 507 = .ok (.aload_n 1, 1) := by decide +kernel
theorem dL_law_508 : decode cL_law 508 = .ok (.aload_n 0, 1) := by decide +kernel
theorem dL_law_509 : decode cL_law 509 = .ok (.iload_n 3, 1) := by decide +kernel
theorem dL_law_510 : decode cL_law 510 = .ok (.iconst 1, 1) := by decide +kernel
theorem dL_law_511 : decode cL_law 511 = .ok (.iadd, 1) := by decide +kernel
theorem dL_law_512 : decode cL_law 512 = .ok (.iaload, 1) := by decide +kernel
theorem dL_law_513 : decode cL_law 513 = .ok (.aload_n 0, 1) := by decide +kernel
theorem dL_law_514 : decode cL_law 514 = .ok (.iload_n 3, 1) := by decide +kernel
theorem dL_law_515 : decode cL_law 515 = .ok (.iconst 2, 1) := by decide +kernel
theorem dL_law_516 : decode cL_law 516 = .ok (.iadd, 1) := by decide +kernel
theorem dL_law_517 : decode cL_law 517 = .ok (.iaload, 1) := by decide +kernel
theorem dL_law_518 : decode cL_law 518 = .ok (.invokevirtual 78, 3) := by decide +kernel
theorem dL_law_521 : decode cL_law 521 = .ok (.aload_n 2, 1) := by decide +kernel
theorem dL_law_522 : decode cL_law 522 = .ok (.aload_n 0, 1) := by decide +kernel
theorem dL_law_523 : decode cL_law 523 = .ok (.iload_n 3, 1) := by decide +kernel
theorem dL_law_524 : decode cL_law 524 = .ok (.iconst 1, 1) := by decide +kernel
theorem dL_law_525 : decode cL_law 525 = .ok (.iadd, 1) := by decide +kernel
theorem dL_law_526 : decode cL_law 526 = .ok (.iaload, 1) := by decide +kernel
theorem dL_law_527 : decode cL_law 527 = .ok (.aload_n 0, 1) := by decide +kernel
theorem dL_law_528 : decode cL_law 528 = .ok (.iload_n 3, 1) := by decide +kernel
theorem dL_law_529 : decode cL_law 529 = .ok (.iconst 2, 1) := by decide +kernel
theorem dL_law_530 : decode cL_law 530 = .ok (.iadd, 1) := by decide +kernel
theorem dL_law_531 : decode cL_law 531 = .ok (.iaload, 1) := by decide +kernel
theorem dL_law_532 : decode cL_law 532 = .ok (.invokevirtual 81, 3) := by decide +kernel
theorem dL_law_535 : decode cL_law 535 = .ok (.if_icmp .eq 206, 3) := by decide +kernel
theorem dL_law_538 : decode cL_law 538 = .ok (.iconst 0, 1) := by decide +kernel
theorem dL_law_539 : decode cL_law 539 = .ok (.ireturn, 1) := by decide +kernel
theorem dL_law_540 : decode cL_law 540 = .ok (.aload_n 1, 1) := by decide +kernel
theorem dL_law_541 : decode cL_law 541 = .ok (.aload_n 0, 1) := by decide +kernel
theorem dL_law_542 : decode cL_law 542 = .ok (.iload_n 3, 1) := by decide +kernel
theorem dL_law_543 : decode cL_law 543 = .ok (.iconst 1, 1) := by decide +kernel
theorem dL_law_544 : decode cL_law 544 = .ok (.iadd, 1) := by decide +kernel
theorem dL_law_545 : decode cL_law 545 = .ok (.iaload, 1) := by decide +kernel
theorem dL_law_546 : decode cL_law 546 = .ok (.aload_n 0, 1) := by decide +kernel
theorem dL_law_547 : decode cL_law 547 = .ok (.iload_n 3, 1) := by decide +kernel
theorem dL_law_548 : decode cL_law 548 = .ok (.iconst 2, 1) := by decide +kernel
theorem dL_law_549 : decode cL_law 549 = .ok (.iadd, 1) := by decide +kernel
theorem dL_law_550 : decode cL_law 550 = .ok (.iaload, 1) := by decide +kernel
theorem dL_law_551 : decode cL_law 551 = .ok (.invokevirtual 82, 3) := by decide +kernel
theorem dL_law_554 : decode cL_law 554 = .ok (.aload_n 2, 1) := by decide +kernel
theorem dL_law_555 : decode cL_law 555 = .ok (.aload_n 0, 1) := by decide +kernel
theorem dL_law_556 : decode cL_law 556 = .ok (.iload_n 3, 1) := by decide +kernel
theorem dL_law_557 : decode cL_law 557 = .ok (.iconst 1, 1) := by decide +kernel
theorem dL_law_558 : decode cL_law 558 = .ok (.iadd, 1) := by decide +kernel
theorem dL_law_559 : decode cL_law 559 = .ok (.iaload, 1) := by decide +kernel
theorem dL_law_560 : decode cL_law 560 = .ok (.aload_n 0, 1) := by decide +kernel
theorem dL_law_561 : decode cL_law 561 = .ok (.iload_n 3, 1) := by decide +kernel
theorem dL_law_562 : decode cL_law 562 = .ok (.iconst 2, 1) := by decide +kernel
theorem dL_law_563 : decode cL_law 563 = .ok (.iadd, 1) := by decide +kernel
theorem dL_law_564 : decode cL_law 564 = .ok (.iaload, 1) := by decide +kernel
theorem dL_law_565 : decode cL_law 565 = .ok (.invokevirtual 85, 3) := by decide +kernel
theorem dL_law_568 : decode cL_law 568 = .ok (.if_icmp .eq 173, 3) := by decide +kernel
theorem dL_law_571 : decode cL_law 571 = .ok (.iconst 0, 1) := by decide +kernel
theorem dL_law_572 : decode cL_law 572 = .ok (.ireturn, 1) := by decide +kernel
theorem dL_law_573 : decode cL_law 573 = .ok (.aload_n 1, 1) := by decide +kernel
theorem dL_law_574 : decode cL_law 574 = .ok (.aload_n 0, 1) := by decide +kernel
theorem dL_law_575 : decode cL_law 575 = .ok (.iload_n 3, 1) := by decide +kernel
theorem dL_law_576 : decode cL_law 576 = .ok (.iconst 1, 1) := by decide +kernel
theorem dL_law_577 : decode cL_law 577 = .ok (.iadd, 1) := by decide +kernel
theorem dL_law_578 : decode cL_law 578 = .ok (.iaload, 1) := by decide +kernel
theorem dL_law_579 : decode cL_law 579 = .ok (.aload_n 0, 1) := by decide +kernel
theorem dL_law_580 : decode cL_law 580 = .ok (.iload_n 3, 1) := by decide +kernel
theorem dL_law_581 : decode cL_law 581 = .ok (.iconst 2, 1) := by decide +kernel
theorem dL_law_582 : decode cL_law 582 = .ok (.iadd, 1) := by decide +kernel
theorem dL_law_583 : decode cL_law 583 = .ok (.iaload, 1) := by decide +kernel
theorem dL_law_584 : decode cL_law 584 = .ok (.invokevirtual 86, 3) := by decide +kernel
theorem dL_law_587 : decode cL_law 587 = .ok (.aload_n 2, 1) := by decide +kernel
theorem dL_law_588 : decode cL_law 588 = .ok (.aload_n 0, 1) := by decide +kernel
theorem dL_law_589 : decode cL_law 589 = .ok (.iload_n 3, 1) := by decide +kernel
theorem dL_law_590 : decode cL_law 590 = .ok (.iconst 1, 1) := by decide +kernel
theorem dL_law_591 : decode cL_law 591 = .ok (.iadd, 1) := by decide +kernel
theorem dL_law_592 : decode cL_law 592 = .ok (.iaload, 1) := by decide +kernel
theorem dL_law_593 : decode cL_law 593 = .ok (.aload_n 0, 1) := by decide +kernel
theorem dL_law_594 : decode cL_law 594 = .ok (.iload_n 3, 1) := by decide +kernel
theorem dL_law_595 : decode cL_law 595 = .ok (.iconst 2, 1) := by decide +kernel
theorem dL_law_596 : decode cL_law 596 = .ok (.iadd, 1) := by decide +kernel
theorem dL_law_597 : decode cL_law 597 = .ok (.iaload, 1) := by decide +kernel
theorem dL_law_598 : decode cL_law 598 = .ok (.invokevirtual 89, 3) := by decide +kernel
theorem dL_law_601 : decode cL_law 601 = .ok (.if_icmp .eq 140, 3) := by decide +kernel
theorem dL_law_604 : decode cL_law 604 = .ok (.iconst 0, 1) := by decide +kernel
theorem dL_law_605 : decode cL_law 605 = .ok (.ireturn, 1) := by decide +kernel
theorem dL_law_606 : decode cL_law 606 = .ok (.aload_n 1, 1) := by decide +kernel
theorem dL_law_607 : decode cL_law 607 = .ok (.aload_n 0, 1) := by decide +kernel
theorem dL_law_608 : decode cL_law 608 = .ok (.iload_n 3, 1) := by decide +kernel
theorem dL_law_609 : decode cL_law 609 = .ok (.iconst 1, 1) := by decide +kernel
theorem dL_law_610 : decode cL_law 610 = .ok (.iadd, 1) := by decide +kernel
theorem dL_law_611 : decode cL_law 611 = .ok (.iaload, 1) := by decide +kernel
theorem dL_law_612 : decode cL_law 612 = .ok (.invokevirtual 90, 3) := by decide +kernel
theorem dL_law_615 : decode cL_law 615 = .ok (.aload_n 2, 1) := by decide +kernel
theorem dL_law_616 : decode cL_law 616 = .ok (.aload_n 0, 1) := by decide +kernel
theorem dL_law_617 : decode cL_law 617 = .ok (.iload_n 3, 1) := by decide +kernel
theorem dL_law_618 : decode cL_law 618 = .ok (.iconst 1, 1) := by decide +kernel
theorem dL_law_619 : decode cL_law 619 = .ok (.iadd, 1) := by decide +kernel
theorem dL_law_620 : decode cL_law 620 = .ok (.iaload, 1) := by decide +kernel
theorem dL_law_621 : decode cL_law 621 = .ok (.invokevirtual 93, 3) := by decide +kernel
theorem dL_law_624 : decode cL_law 624 = .ok (.if_icmp .eq 117, 3) := by decide +kernel
theorem dL_law_627 : decode cL_law 627 = .ok (.iconst 0, 1) := by decide +kernel
theorem dL_law_628 : decode cL_law 628 = .ok (.ireturn, 1) := by decide +kernel
theorem dL_law_629 : decode cL_law 629 = .ok (.aload_n 1, 1) := by decide +kernel
theorem dL_law_630 : decode cL_law 630 = .ok (.invokevirtual 94, 3) := by decide +kernel
theorem dL_law_633 : decode cL_law 633 = .ok (.f2d, 1) := by decide +kernel
theorem dL_law_634 : decode cL_law 634 = .ok (.dstore 4, 2) := by decide +kernel
theorem dL_law_636 : decode cL_law 636 = .ok (.aload_n 2, 1) := by decide +kernel
theorem dL_law_637 : decode cL_law 637 = .ok (.invokevirtual 98, 3) := by decide +kernel
theorem dL_law_640 : decode cL_law 640 = .ok (.f2d, 1) := by decide +kernel
theorem dL_law_641 : decode cL_law 641 = .ok (.dstore 6, 2) := by decide +kernel
theorem dL_law_643 : decode cL_law 643 = .ok (.dload 4, 2) := by decide +kernel
theorem dL_law_645 : decode cL_law 645 = .ok (.dload 6, 2) := by decide +kernel
theorem dL_law_647 : decode cL_law 647 = .ok (.dcmp .l, 1) := by decide +kernel
theorem dL_law_648 : decode cL_law 648 = .ok (.ifCond .eq 21, 3) := by decide +kernel
theorem dL_law_651 : decode cL_law 651 = .ok (.dload 4, 2) := by decide +kernel
theorem dL_law_653 : decode cL_law 653 = .ok (.dload 4, 2) := by decide +kernel
theorem dL_law_655 : decode cL_law 655 = .ok (.dcmp .l, 1) := by decide +kernel
theorem dL_law_656 : decode cL_law 656 = .ok (.ifCond .eq 11, 3) := by decide +kernel
theorem dL_law_659 : decode cL_law 659 = .ok (.dload 6, 2) := by decide +kernel
theorem dL_law_661 : decode cL_law 661 = .ok (.dload 6, 2) := by decide +kernel
theorem dL_law_663 : decode cL_law 663 = .ok (.dcmp .l, 1) := by decide +kernel
theorem dL_law_664 : decode cL_law 664 = .ok (.ifCond .ne 5, 3) := by decide +kernel
theorem dL_law_667 : decode cL_law 667 = .ok (.iconst 0, 1) := by decide +kernel
theorem dL_law_668 : decode cL_law 668 = .ok (.ireturn, 1) := by decide +kernel
theorem dL_law_669 : decode cL_law 669 = .ok (.goto 72, 3) := by decide +kernel
theorem dL_law_672 : decode cL_law 672 = .ok (.aload_n 1, 1) := by decide +kernel
theorem dL_law_673 : decode cL_law 673 = .ok (.aload_n 0, 1) := by decide +kernel
theorem dL_law_674 : decode cL_law 674 = .ok (.iload_n 3, 1) := by decide +kernel
theorem dL_law_675 : decode cL_law 675 = .ok (.iconst 1, 1) := by decide +kernel
theorem dL_law_676 : decode cL_law 676 = .ok (.iadd, 1) := by decide +kernel
theorem dL_law_677 : decode cL_law 677 = .ok (.iaload, 1) := by decide +kernel
theorem dL_law_678 : decode cL_law 678 = .ok (.invokevirtual 99, 3) := by decide +kernel
theorem dL_law_681 : decode cL_law 681 = .ok (.aload_n 2, 1) := by decide +kernel
theorem dL_law_682 : decode cL_law 682 = .ok (.aload_n 0, 1) := by decide +kernel
theorem dL_law_683 : decode cL_law 683 = .ok (.iload_n 3, 1) := by decide +kernel
theorem dL_law_684 : decode cL_law 684 = .ok (.iconst 1, 1) := by decide +kernel
theorem dL_law_685 : decode cL_law 685 = .ok (.iadd, 1) := by decide +kernel
theorem dL_law_686 : decode cL_law 686 = .ok (.iaload, 1) := by decide +kernel
theorem dL_law_687 : decode cL_law 687 = .ok (.invokevirtual 102, 3) := by decide +kernel
theorem dL_law_690 : decode cL_law 690 = .ok (.if_icmp .eq 51, 3) := by decide +kernel
theorem dL_law_693 : decode cL_law 693 = .ok (.iconst 0, 1) := by decide +kernel
theorem dL_law_694 : decode cL_law 694 = .ok (.ireturn, 1) := by decide +kernel
theorem dL_law_695 : decode cL_law 695 = .ok (.aload_n 1, 1) := by decide +kernel
theorem dL_law_696 : decode cL_law 696 = .ok (.aload_n 0, 1) := by decide +kernel
theorem dL_law_697 : decode cL_law 697 = .ok (.iload_n 3, 1) := by decide +kernel
theorem dL_law_698 : decode cL_law 698 = .ok (.iconst 1, 1) := by decide +kernel
theorem dL_law_699 : decode cL_law 699 = .ok (.iadd, 1) := by decide +kernel
theorem dL_law_700 : decode cL_law 700 = .ok (.iaload, 1) := by decide +kernel
theorem dL_law_701 : decode cL_law 701 = .ok (.invokevirtual 103, 3) := by decide +kernel
theorem dL_law_704 : decode cL_law 704 = .ok (.aload_n 2, 1) := by decide +kernel
theorem dL_law_705 : decode cL_law 705 = .ok (.aload_n 0, 1) := by decide +kernel
theorem dL_law_706 : decode cL_law 706 = .ok (.iload_n 3, 1) := by decide +kernel
theorem dL_law_707 : decode cL_law 707 = .ok (.iconst 1, 1) := by decide +kernel
theorem dL_law_708 : decode cL_law 708 = .ok (.iadd, 1) := by decide +kernel
theorem dL_law_709 : decode cL_law 709 = .ok (.iaload, 1) := by decide +kernel
theorem dL_law_710 : decode cL_law 710 = .ok (.invokevirtual 106, 3) := by decide +kernel
theorem dL_law_713 : decode cL_law 713 = .ok (.if_icmp .eq 28, 3) := by decide +kernel
theorem dL_law_716 : decode cL_law 716 = .ok (.iconst 0, 1) := by decide +kernel
theorem dL_law_717 : decode cL_law 717 = .ok (.ireturn, 1) := by decide +kernel
theorem dL_law_718 : decode cL_law 718 = .ok (.aload_n 1, 1) := by decide +kernel
theorem dL_law_719 : decode cL_law 719 = .ok (.aload_n 0, 1) := by decide +kernel
theorem dL_law_720 : decode cL_law 720 = .ok (.iload_n 3, 1) := by decide +kernel
theorem dL_law_721 : decode cL_law 721 = .ok (.iconst 1, 1) := by decide +kernel
theorem dL_law_722 : decode cL_law 722 = .ok (.iadd, 1) := by decide +kernel
theorem dL_law_723 : decode cL_law 723 = .ok (.iaload, 1) := by decide +kernel
theorem dL_law_724 : decode cL_law 724 = .ok (.invokevirtual 107, 3) := by decide +kernel
theorem dL_law_727 : decode cL_law 727 = .ok (.aload_n 2, 1) := by decide +kernel
theorem dL_law_728 : decode cL_law 728 = .ok (.aload_n 0, 1) := by decide +kernel
theorem dL_law_729 : decode cL_law 729 = .ok (.iload_n 3, 1) := by decide +kernel
theorem dL_law_730 : decode cL_law 730 = .ok (.iconst 1, 1) := by decide +kernel
theorem dL_law_731 : decode cL_law 731 = .ok (.iadd, 1) := by decide +kernel
theorem dL_law_732 : decode cL_law 732 = .ok (.iaload, 1) := by decide +kernel
theorem dL_law_733 : decode cL_law 733 = .ok (.invokevirtual 110, 3) := by decide +kernel
theorem dL_law_736 : decode cL_law 736 = .ok (.if_icmp .eq 5, 3) := by decide +kernel
theorem dL_law_739 : decode cL_law 739 = .ok (.iconst 0, 1) := by decide +kernel
theorem dL_law_740 : decode cL_law 740 = .ok (.ireturn, 1) := by decide +kernel
theorem dL_law_741 : decode cL_law 741 = .ok (.iinc 3 4, 3) := by decide +kernel
theorem dL_law_744 : decode cL_law 744 = .ok (.goto (-726), 3) := by decide +kernel
theorem dL_law_747 : decode cL_law 747 = .ok (.iconst 1, 1) := by decide +kernel
theorem dL_law_748 : decode cL_law 748 = .ok (.ireturn, 1) := by decide +kernel
