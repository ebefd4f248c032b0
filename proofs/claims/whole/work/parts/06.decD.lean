theorem dX8_init_0 : decode cX8_init 0 = .ok (.aload_n 0, 1) := by decide +kernel
theorem dX8_init_1 : decode cX8_init 1 = .ok (.invokespecial 1, 3) := by decide +kernel
theorem dX8_init_4 : decode cX8_init 4 = .ok (.aload_n 0, 1) := by decide +kernel
theorem dX8_init_5 : decode cX8_init 5 = .ok (.sipush 1651, 3) := by decide +kernel
theorem dX8_init_8 : decode cX8_init 8 = .ok (.newarray .int, 2) := by decide +kernel
theorem dX8_init_10 : decode cX8_init 10 = .ok (.putfield 7, 3) := by decide +kernel
theorem dX8_init_13 : decode cX8_init 13 = .ok (.aload_n 0, 1) := by decide +kernel
theorem dX8_init_14 : decode cX8_init 14 = .ok (.sipush 9906, 3) := by decide +kernel
theorem dX8_init_17 : decode cX8_init 17 = .ok (.newarray .int, 2) := by decide +kernel
theorem dX8_init_19 : decode cX8_init 19 = .ok (.putfield 13, 3) := by decide +kernel
theorem dX8_init_22 : decode cX8_init 22 = .ok (.aload_n 0, 1) := by decide +kernel
theorem dX8_init_23 : decode cX8_init 23 = .ok (.sipush 1651, 3) := by decide +kernel
theorem dX8_init_26 : decode cX8_init 26 = .ok (.newarray .int, 2) := by decide +kernel
theorem dX8_init_28 : decode cX8_init 28 = .ok (.putfield 16, 3) := by decide +kernel
theorem dX8_init_31 : decode cX8_init 31 = .ok (.aload_n 0, 1) := by decide +kernel
theorem dX8_init_32 : decode cX8_init 32 = .ok (.sipush 1651, 3) := by decide +kernel
theorem dX8_init_35 : decode cX8_init 35 = .ok (.newarray .int, 2) := by decide +kernel
theorem dX8_init_37 : decode cX8_init 37 = .ok (.putfield 19, 3) := by decide +kernel
theorem dX8_init_40 : decode cX8_init 40 = .ok (.aload_n 0, 1) := by decide +kernel
theorem dX8_init_41 : decode cX8_init 41 = .ok (.bipush 60, 2) := by decide +kernel
theorem dX8_init_43 : decode cX8_init 43 = .ok (.newarray .int, 2) := by decide +kernel
theorem dX8_init_45 : decode cX8_init 45 = .ok (.putfield 22, 3) := by decide +kernel
theorem dX8_init_48 : decode cX8_init 48 = .ok (.aload_n 0, 1) := by decide +kernel
theorem dX8_init_49 : decode cX8_init 49 = .ok (.iconst 3, 1) := by decide +kernel
theorem dX8_init_50 : decode cX8_init 50 = .ok (.newarray .int, 2) := by decide +kernel
theorem dX8_init_52 : decode cX8_init 52 = .ok (.putfield 25, 3) := by decide +kernel
theorem dX8_init_55 : decode cX8_init 55 = .ok (.aload_n 0, 1) := by decide +kernel
theorem dX8_init_56 : decode cX8_init 56 = .ok (.bipush 8, 2) := by decide +kernel
theorem dX8_init_58 : decode cX8_init 58 = .ok (.newarray .int, 2) := by decide +kernel
theorem dX8_init_60 : decode cX8_init 60 = .ok (.putfield 28, 3) := by decide +kernel
theorem dX8_init_63 : decode cX8_init 63 = .ok (.aload_n 0, 1) := by decide +kernel
theorem dX8_init_64 : decode cX8_init 64 = .ok (.getfield 7, 3) := by decide +kernel
theorem dX8_init_67 : decode cX8_init 67 = .ok (.bipush 11, 2) := by decide +kernel
theorem dX8_init_69 : decode cX8_init 69 = .ok (.iconst 2, 1) := by decide +kernel
theorem dX8_init_70 : decode cX8_init 70 = .ok (.iastore, 1) := by decide +kernel
theorem dX8_init_71 : decode cX8_init 71 = .ok (.aload_n 0, 1) := by decide +kernel
theorem dX8_init_72 : decode cX8_init 72 = .ok (.getfield 7, 3) := by decide +kernel
theorem dX8_init_75 : decode cX8_init 75 = .ok (.bipush 12, 2) := by decide +kernel
theorem dX8_init_77 : decode cX8_init 77 = .ok (.iconst 3, 1) := by decide +kernel
theorem dX8_init_78 : decode cX8_init 78 = .ok (.iastore, 1) := by decide +kernel
theorem dX8_init_79 : decode cX8_init 79 = .ok (.aload_n 0, 1) := by decide +kernel
theorem dX8_init_80 : decode cX8_init 80 = .ok (.getfield 7, 3) := by decide +kernel
theorem dX8_init_83 : decode cX8_init 83 = .ok (.bipush 13, 2) := by decide +kernel
theorem dX8_init_85 : decode cX8_init 85 = .ok (.bipush 6, 2) := by decide +kernel
theorem dX8_init_87 : decode cX8_init 87 = .ok (.iastore, 1) := by decide +kernel
theorem dX8_init_88 : decode cX8_init 88 = .ok (.aload_n 0, 1) := by decide +kernel
theorem dX8_init_89 : decode cX8_init 89 = .ok (.getfield 7, 3) := by decide +kernel
theorem dX8_init_92 : decode cX8_init 92 = .ok (.bipush 15, 2) := by decide +kernel
theorem dX8_init_94 : decode cX8_init 94 = .ok (.iconst 1, 1) := by decide +kernel
theorem dX8_init_95 : decode cX8_init 95 = .ok (.iastore, 1) := by decide +kernel
theorem dX8_init_96 : decode cX8_init 96 = .ok (.aload_n 0, 1) := by decide +kernel
theorem dX8_init_97 : decode cX8_init 97 = .ok (.getfield 7, 3) := by decide +kernel
theorem dX8_init_100 : decode cX8_init 100 = .ok (.bipush 16, 2) := by decide +kernel
theorem dX8_init_102 : decode cX8_init 102 = .ok (.iconst 4, 1) := by decide +kernel
theorem dX8_init_103 : decode cX8_init 103 = .ok (.iastore, 1) := by decide +kernel
theorem dX8_init_104 : decode cX8_init 104 = .ok (.iconst 0, 1) := by decide +kernel
theorem dX8_init_105 : decode cX8_init 105 = .ok (.istore_n 1, 1) := by decide +kernel
theorem dX8_init_106 : decode cX8_init 106 = .ok (.iload_n 1, 1) := by decide +kernel
theorem dX8_init_107 : decode cX8_init 107 = .ok (.iconst 3, 1) := by decide +kernel
theorem dX8_init_108 : decode cX8_init 108 = .ok (.if_icmp .ge 32, 3) := by decide +kernel
theorem dX8_init_111 : decode cX8_init 111 = .ok (.aload_n 0, 1) := by decide +kernel
theorem dX8_init_112 : decode cX8_init 112 = .ok (.iload_n 1, 1) := by decide +kernel
theorem dX8_init_113 : decode cX8_init 113 = .ok (.iconst 0, 1) := by decide +kernel
theorem dX8_init_114 : decode cX8_init 114 = .ok (.bipush 15, 2) := by decide +kernel
theorem dX8_init_116 : decode cX8_init 116 = .ok (.invokevirtual 31, 3) := by decide +kernel
theorem dX8_init_119 : decode cX8_init 119 = .ok (.aload_n 0, 1) := by decide +kernel
theorem dX8_init_120 : decode cX8_init 120 = .ok (.iload_n 1, 1) := by decide +kernel
theorem dX8_init_121 : decode cX8_init 121 = .ok (.iconst 1, 1) := by decide +kernel
theorem dX8_init_122 : decode cX8_init 122 = .ok (.iconst (-1), 1) := by decide +kernel
theorem dX8_init_123 : decode cX8_init 123 = .ok (.invokevirtual 31, 3) := by decide +kernel
theorem dX8_init_126 : decode cX8_init 126 = .ok (.aload_n 0, 1) := by decide +kernel
theorem dX8_init_127 : decode cX8_init 127 = .ok (.iload_n 1, 1) := by decide +kernel
theorem dX8_init_128 : decode cX8_init 128 = .ok (.bipush 8, 2) := by decide +kernel
theorem dX8_init_130 : decode cX8_init 130 = .ok (.iconst (-1), 1) := by decide +kernel
theorem dX8_init_131 : decode cX8_init 131 = .ok (.invokevirtual 31, 3) := by decide +kernel
theorem dX8_init_134 : decode cX8_init 134 = .ok (.iinc 1 1, 3) := by decide +kernel
theorem dX8_init_137 : decode cX8_init 137 = .ok (.goto (-31), 3) := by decide +kernel
theorem dX8_init_140 : decode cX8_init 140 = .ok (.return_, 1) := by decide +kernel
theorem dX8_thrown_0 : decode cX8_thrown 0 = .ok (.aload_n 0, 1) := by decide +kernel
theorem dX8_thrown_1 : decode cX8_thrown 1 = .ok (.getfield 35, 3) := by decide +kernel
theorem dX8_thrown_4 : decode cX8_thrown 4 = .ok (.ireturn, 1) := by decide +kernel
theorem dX8_fails_0 : decode cX8_fails 0 = .ok (.aload_n 0, 1) := by decide +kernel
theorem dX8_fails_1 : decode cX8_fails 1 = .ok (.iload_n 1, 1) := by decide +kernel
theorem dX8_fails_2 : decode cX8_fails 2 = .ok (.putfield 35, 3) := by decide +kernel
theorem dX8_fails_5 : decode cX8_fails 5 = .ok (.iconst 0, 1) := by decide +kernel
theorem dX8_fails_6 : decode cX8_fails 6 = .ok (.ireturn, 1) := by decide +kernel
theorem dX8_in_0 : decode cX8_in 0 = .ok (.iload_n 0, 1) := by decide +kernel
theorem dX8_in_1 : decode cX8_in 1 = .ok (.iload_n 1, 1) := by decide +kernel
theorem dX8_in_2 : decode cX8_in 2 = .ok (.if_icmp .lt 12, 3) := by decide +kernel
theorem dX8_in_5 : decode cX8_in 5 = .ok (.iload_n 0, 1) := by decide +kernel
theorem dX8_in_6 : decode cX8_in 6 = .ok (.iload_n 2, 1) := by decide +kernel
theorem dX8_in_7 : decode cX8_in 7 = .ok (.if_icmp .gt 7, 3) := by decide +kernel
theorem dX8_in_10 : decode cX8_in 10 = .ok (.iconst 1, 1) := by decide +kernel
theorem dX8_in_11 : decode cX8_in 11 = .ok (.goto 4, 3) := by decide +kernel
theorem dX8_in_14 : decode cX8_in 14 = .ok (.iconst 0, 1) := by decide +kernel
theorem dX8_in_15 : decode cX8_in 15 = .ok (.ireturn, 1) := by decide +kernel
theorem dX8_of_0 : decode cX8_of 0 = .ok (.aload_n 0, 1) := by decide +kernel
theorem dX8_of_1 : decode cX8_of 1 = .ok (.getfield 7, 3) := by decide +kernel
theorem dX8_of_4 : decode cX8_of 4 = .ok (.sipush 697, 3) := by decide +kernel
theorem dX8_of_7 : decode cX8_of 7 = .ok (.bipush 38, 2) := by decide +kernel
theorem dX8_of_9 : decode cX8_of 9 = .ok (.iload_n 1, 1) := by decide +kernel
theorem dX8_of_10 : decode cX8_of 10 = .ok (.imul, 1) := by decide +kernel
theorem dX8_of_11 : decode cX8_of 11 = .ok (.iadd, 1) := by decide +kernel
theorem dX8_of_12 : decode cX8_of 12 = .ok (.iload_n 2, 1) := by decide +kernel
theorem dX8_of_13 : decode cX8_of 13 = .ok (.iadd, 1) := by decide +kernel
theorem dX8_of_14 : decode cX8_of 14 = .ok (.iaload, 1) := by decide +kernel
theorem dX8_of_15 : decode cX8_of 15 = .ok (.ireturn, 1) := by decide +kernel
theorem dX8_lay_0 : decode cX8_lay 0 = .ok (.aload_n 0, 1) := by decide +kernel
theorem dX8_lay_1 : decode cX8_lay 1 = .ok (.getfield 7, 3) := by decide +kernel
theorem dX8_lay_4 : decode cX8_lay 4 = .ok (.sipush 697, 3) := by decide +kernel
theorem dX8_lay_7 : decode cX8_lay 7 = .ok (.bipush 38, 2) := by decide +kernel
theorem dX8_lay_9 : decode cX8_lay 9 = .ok (.iload_n 1, 1) := by decide +kernel
theorem dX8_lay_10 : decode cX8_lay 10 = .ok (.imul, 1) := by decide +kernel
theorem dX8_lay_11 : decode cX8_lay 11 = .ok (.iadd, 1) := by decide +kernel
theorem dX8_lay_12 : decode cX8_lay 12 = .ok (.iload_n 2, 1) := by decide +kernel
theorem dX8_lay_13 : decode cX8_lay 13 = .ok (.iadd, 1) := by decide +kernel
theorem dX8_lay_14 : decode cX8_lay 14 = .ok (.iload_n 3, 1) := by decide +kernel
theorem dX8_lay_15 : decode cX8_lay 15 = .ok (.iastore, 1) := by decide +kernel
theorem dX8_lay_16 : decode cX8_lay 16 = .ok (.return_, 1) := by decide +kernel
theorem dX8_its_0 : decode cX8_its 0 = .ok (.aload_n 0, 1) := by decide +kernel
theorem dX8_its_1 : decode cX8_its 1 = .ok (.getfield 7, 3) := by decide +kernel
theorem dX8_its_4 : decode cX8_its 4 = .ok (.bipush 17, 2) := by decide +kernel
theorem dX8_its_6 : decode cX8_its 6 = .ok (.bipush 20, 2) := by decide +kernel
theorem dX8_its_8 : decode cX8_its 8 = .ok (.iload_n 1, 1) := by decide +kernel
theorem dX8_its_9 : decode cX8_its 9 = .ok (.imul, 1) := by decide +kernel
theorem dX8_its_10 : decode cX8_its 10 = .ok (.iadd, 1) := by decide +kernel
theorem dX8_its_11 : decode cX8_its 11 = .ok (.iload_n 2, 1) := by decide +kernel
theorem dX8_its_12 : decode cX8_its 12 = .ok (.iadd, 1) := by decide +kernel
theorem dX8_its_13 : decode cX8_its 13 = .ok (.iaload, 1) := by decide +kernel
theorem dX8_its_14 : decode cX8_its 14 = .ok (.ireturn, 1) := by decide +kernel
theorem dX8_isOpen_0 : decode cX8_isOpen 0 = .ok (.iload_n 1, 1) := by decide +kernel
theorem dX8_isOpen_1 : decode cX8_isOpen 1 = .ok (.iconst 0, 1) := by decide +kernel
theorem dX8_isOpen_2 : decode cX8_isOpen 2 = .ok (.iconst 3, 1) := by decide +kernel
theorem dX8_isOpen_3 : decode cX8_isOpen 3 = .ok (.invokestatic 39, 3) := by decide +kernel
theorem dX8_isOpen_6 : decode cX8_isOpen 6 = .ok (.ifCond .eq 17, 3) := by decide +kernel
theorem dX8_isOpen_9 : decode cX8_isOpen 9 = .ok (.aload_n 0, 1) := by decide +kernel
theorem dX8_isOpen_10 : decode cX8_isOpen 10 = .ok (.iload_n 1, 1) := by decide +kernel
theorem dX8_isOpen_11 : decode cX8_isOpen 11 = .ok (.iconst 0, 1) := by decide +kernel
theorem dX8_isOpen_12 : decode cX8_isOpen 12 = .ok (.invokevirtual 43, 3) := by decide +kernel
theorem dX8_isOpen_15 : decode cX8_isOpen 15 = .ok (.iconst 1, 1) := by decide +kernel
theorem dX8_isOpen_16 : decode cX8_isOpen 16 = .ok (.if_icmp .ne 7, 3) := by decide +kernel
theorem dX8_isOpen_19 : decode cX8_isOpen 19 = .ok (.iconst 1, 1) := by decide +kernel
theorem dX8_isOpen_20 : decode cX8_isOpen 20 = .ok (.goto 4, 3) := by decide +kernel
theorem dX8_isOpen_23 : decode cX8_isOpen 23 = .ok (.iconst 0, 1) := by decide +kernel
theorem dX8_isOpen_24 : decode cX8_isOpen 24 = .ok (.ireturn, 1) := by decide +kernel
theorem dX8_topicOf_0 : decode cX8_topicOf 0 = .ok (.aload_n 0, 1) := by decide +kernel
theorem dX8_topicOf_1 : decode cX8_topicOf 1 = .ok (.getfield 7, 3) := by decide +kernel
theorem dX8_topicOf_4 : decode cX8_topicOf 4 = .ok (.bipush 97, 2) := by decide +kernel
theorem dX8_topicOf_6 : decode cX8_topicOf 6 = .ok (.iconst 3, 1) := by decide +kernel
theorem dX8_topicOf_7 : decode cX8_topicOf 7 = .ok (.iload_n 1, 1) := by decide +kernel
theorem dX8_topicOf_8 : decode cX8_topicOf 8 = .ok (.imul, 1) := by decide +kernel
theorem dX8_topicOf_9 : decode cX8_topicOf 9 = .ok (.iadd, 1) := by decide +kernel
theorem dX8_topicOf_10 : decode cX8_topicOf 10 = .ok (.iaload, 1) := by decide +kernel
theorem dX8_topicOf_11 : decode cX8_topicOf 11 = .ok (.iconst 4, 1) := by decide +kernel
theorem dX8_topicOf_12 : decode cX8_topicOf 12 = .ok (.irem, 1) := by decide +kernel
theorem dX8_topicOf_13 : decode cX8_topicOf 13 = .ok (.ireturn, 1) := by decide +kernel
theorem dX8_valueOf_0 : decode cX8_valueOf 0 = .ok (.aload_n 0, 1) := by decide +kernel
theorem dX8_valueOf_1 : decode cX8_valueOf 1 = .ok (.getfield 7, 3) := by decide +kernel
theorem dX8_valueOf_4 : decode cX8_valueOf 4 = .ok (.bipush 97, 2) := by decide +kernel
theorem dX8_valueOf_6 : decode cX8_valueOf 6 = .ok (.iconst 3, 1) := by decide +kernel
theorem dX8_valueOf_7 : decode cX8_valueOf 7 = .ok (.iload_n 1, 1) := by decide +kernel
theorem dX8_valueOf_8 : decode cX8_valueOf 8 = .ok (.imul, 1) := by decide +kernel
theorem dX8_valueOf_9 : decode cX8_valueOf 9 = .ok (.iadd, 1) := by decide +kernel
theorem dX8_valueOf_10 : decode cX8_valueOf 10 = .ok (.iaload, 1) := by decide +kernel
theorem dX8_valueOf_11 : decode cX8_valueOf 11 = .ok (.iconst 4, 1) := by decide +kernel
theorem dX8_valueOf_12 : decode cX8_valueOf 12 = .ok (.idiv, 1) := by decide +kernel
theorem dX8_valueOf_13 : decode cX8_valueOf 13 = .ok (.ireturn, 1) := by decide +kernel
theorem dX8_writeOf_0 : decode cX8_writeOf 0 = .ok (.aload_n 0, 1) := by decide +kernel
theorem dX8_writeOf_1 : decode cX8_writeOf 1 = .ok (.getfield 7, 3) := by decide +kernel
theorem dX8_writeOf_4 : decode cX8_writeOf 4 = .ok (.bipush 97, 2) := by decide +kernel
theorem dX8_writeOf_6 : decode cX8_writeOf 6 = .ok (.iconst 3, 1) := by decide +kernel
theorem dX8_writeOf_7 : decode cX8_writeOf 7 = .ok (.iload_n 1, 1) := by decide +kernel
theorem dX8_writeOf_8 : decode cX8_writeOf 8 = .ok (.imul, 1) := by decide +kernel
theorem dX8_writeOf_9 : decode cX8_writeOf 9 = .ok (.iadd, 1) := by decide +kernel
theorem dX8_writeOf_10 : decode cX8_writeOf 10 = .ok (.iconst 1, 1) := by decide +kernel
theorem dX8_writeOf_11 : decode cX8_writeOf 11 = .ok (.iadd, 1) := by decide +kernel
theorem dX8_writeOf_12 : decode cX8_writeOf 12 = .ok (.iaload, 1) := by decide +kernel
theorem dX8_writeOf_13 : decode cX8_writeOf 13 = .ok (.ireturn, 1) := by decide +kernel
theorem dX8_hasMark_0 : decode cX8_hasMark 0 = .ok (.aload_n 0, 1) := by decide +kernel
theorem dX8_hasMark_1 : decode cX8_hasMark 1 = .ok (.getfield 7, 3) := by decide +kernel
theorem dX8_hasMark_4 : decode cX8_hasMark 4 = .ok (.bipush 97, 2) := by decide +kernel
theorem dX8_hasMark_6 : decode cX8_hasMark 6 = .ok (.iconst 3, 1) := by decide +kernel
theorem dX8_hasMark_7 : decode cX8_hasMark 7 = .ok (.iload_n 1, 1) := by decide +kernel
theorem dX8_hasMark_8 : decode cX8_hasMark 8 = .ok (.imul, 1) := by decide +kernel
theorem dX8_hasMark_9 : decode cX8_hasMark 9 = .ok (.iadd, 1) := by decide +kernel
theorem dX8_hasMark_10 : decode cX8_hasMark 10 = .ok (.iconst 2, 1) := by decide +kernel
theorem dX8_hasMark_11 : decode cX8_hasMark 11 = .ok (.iadd, 1) := by decide +kernel
theorem dX8_hasMark_12 : decode cX8_hasMark 12 = .ok (.iaload, 1) := by decide +kernel
theorem dX8_hasMark_13 : decode cX8_hasMark 13 = .ok (.iload_n 2, 1) := by decide +kernel
theorem dX8_hasMark_14 : decode cX8_hasMark 14 = .ok (.ishr, 1) := by decide +kernel
theorem dX8_hasMark_15 : decode cX8_hasMark 15 = .ok (.iconst 1, 1) := by decide +kernel
theorem dX8_hasMark_16 : decode cX8_hasMark 16 = .ok (.iand, 1) := by decide +kernel
theorem dX8_hasMark_17 : decode cX8_hasMark 17 = .ok (.iconst 1, 1) := by decide +kernel
theorem dX8_hasMark_18 : decode cX8_hasMark 18 = .ok (.if_icmp .ne 7, 3) := by decide +kernel
theorem dX8_hasMark_21 : decode cX8_hasMark 21 = .ok (.iconst 1, 1) := by decide +kernel
theorem dX8_hasMark_22 : decode cX8_hasMark 22 = .ok (.goto 4, 3) := by decide +kernel
theorem dX8_hasMark_25 : decode cX8_hasMark 25 = .ok (.iconst 0, 1) := by decide +kernel
theorem dX8_hasMark_26 : decode cX8_hasMark 26 = .ok (.ireturn, 1) := by decide +kernel
theorem dX8_mark_0 : decode cX8_mark 0 = .ok (.aload_n 0, 1) := by decide +kernel
theorem dX8_mark_1 : decode cX8_mark 1 = .ok (.getfield 7, 3) := by decide +kernel
theorem dX8_mark_4 : decode cX8_mark 4 = .ok (.bipush 97, 2) := by decide +kernel
theorem dX8_mark_6 : decode cX8_mark 6 = .ok (.iconst 3, 1) := by decide +kernel
theorem dX8_mark_7 : decode cX8_mark 7 = .ok (.iload_n 1, 1) := by decide +kernel
theorem dX8_mark_8 : decode cX8_mark 8 = .ok (.imul, 1) := by decide +kernel
theorem dX8_mark_9 : decode cX8_mark 9 = .ok (.iadd, 1) := by decide +kernel
theorem dX8_mark_10 : decode cX8_mark 10 = .ok (.iconst 2, 1) := by decide +kernel
theorem dX8_mark_11 : decode cX8_mark 11 = .ok (.iadd, 1) := by decide +kernel
theorem dX8_mark_12 : decode cX8_mark 12 = .ok (.dup2, 1) := by decide +kernel
theorem dX8_mark_13 : decode cX8_mark 13 = .ok (.iaload, 1) := by decide +kernel
theorem dX8_mark_14 : decode cX8_mark 14 = .ok (.iconst 1, 1) := by decide +kernel
theorem dX8_mark_15 : decode cX8_mark 15 = .ok (.iload_n 2, 1) := by decide +kernel
theorem dX8_mark_16 : decode cX8_mark 16 = .ok (.ishl, 1) := by decide +kernel
theorem dX8_mark_17 : decode cX8_mark 17 = .ok (.ior, 1) := by decide +kernel
theorem dX8_mark_18 : decode cX8_mark 18 = .ok (.iastore, 1) := by decide +kernel
theorem dX8_mark_19 : decode cX8_mark 19 = .ok (.return_, 1) := by decide +kernel
theorem dX8_numberOf_0 : decode cX8_numberOf 0 = .ok (.aload_n 0, 1) := by decide +kernel
theorem dX8_numberOf_1 : decode cX8_numberOf 1 = .ok (.getfield 7, 3) := by decide +kernel
theorem dX8_numberOf_4 : decode cX8_numberOf 4 = .ok (.bipush 10, 2) := by decide +kernel
theorem dX8_numberOf_6 : decode cX8_numberOf 6 = .ok (.iaload, 1) := by decide +kernel
theorem dX8_numberOf_7 : decode cX8_numberOf 7 = .ok (.ifCond .ne 7, 3) := by decide +kernel
theorem dX8_numberOf_10 : decode cX8_numberOf 10 = .ok (.iload_n 1, 1) := by decide +kernel
theorem dX8_numberOf_11 : decode cX8_numberOf 11 = .ok (.goto 8, 3) := by decide +kernel
theorem dX8_numberOf_14 : decode cX8_numberOf 14 = .ok (.aload_n 0, 1) := by decide +kernel
theorem dX8_numberOf_15 : decode cX8_numberOf 15 = .ok (.iload_n 1, 1) := by decide +kernel
theorem dX8_numberOf_16 : decode cX8_numberOf 16 = .ok (.invokevirtual 47, 3) := by decide +kernel
theorem dX8_numberOf_19 : decode cX8_numberOf 19 = .ok (.ireturn, 1) := by decide +kernel
theorem dX8_next_0 : decode cX8_next 0 = .ok (.iconst (-1), 1) := by decide +kernel
theorem dX8_next_1 : decode cX8_next 1 = .ok (.istore_n 2, 1) := by decide +kernel
theorem dX8_next_2 : decode cX8_next 2 = .ok (.iconst 0, 1) := by decide +kernel
theorem dX8_next_3 : decode cX8_next 3 = .ok (.istore_n 3, 1) := by decide +kernel
theorem dX8_next_4 : decode cX8_next 4 = .ok (.iload_n 3, 1) := by decide +kernel
theorem dX8_next_5 : decode cX8_next 5 = .ok (.aload_n 0, 1) := by decide +kernel
theorem dX8_next_6 : decode cX8_next 6 = .ok (.getfield 7, 3) := by decide +kernel
theorem dX8_next_9 : decode cX8_next 9 = .ok (.iconst 2, 1) := by decide +kernel
theorem dX8_next_10 : decode cX8_next 10 = .ok (.iaload, 1) := by decide +kernel
theorem dX8_next_11 : decode cX8_next 11 = .ok (.if_icmp .ge 63, 3) := by decide +kernel
theorem dX8_next_14 : decode cX8_next 14 = .ok (.aload_n 0, 1) := by decide +kernel
theorem dX8_next_15 : decode cX8_next 15 = .ok (.iload_n 3, 1) := by decide +kernel
theorem dX8_next_16 : decode cX8_next 16 = .ok (.iconst 0, 1) := by decide +kernel
theorem dX8_next_17 : decode cX8_next 17 = .ok (.invokevirtual 51, 3) := by decide +kernel
theorem dX8_next_20 : decode cX8_next 20 = .ok (.ifCond .ne 16, 3) := by decide +kernel
theorem dX8_next_23 : decode cX8_next 23 = .ok (.aload_n 0, 1) := by decide +kernel
theorem dX8_next_24 : decode cX8_next 24 = .ok (.iload_n 3, 1) := by decide +kernel
theorem dX8_next_25 : decode cX8_next 25 = .ok (.invokevirtual 55, 3) := by decide +kernel
theorem dX8_next_28 : decode cX8_next 28 = .ok (.iload_n 1, 1) := by decide +kernel
theorem dX8_next_29 : decode cX8_next 29 = .ok (.if_icmp .le 7, 3) := by decide +kernel
theorem dX8_next_32 : decode cX8_next 32 = .ok (.iconst 1, 1) := by decide +kernel
theorem dX8_next_33 : decode cX8_next 33 = .ok (.goto 4, 3) := by decide +kernel
theorem dX8_next_36 : decode cX8_next 36 = .ok (.iconst 0, 1) := by decide +kernel
theorem dX8_next_37 : decode cX8_next 37 = .ok (.istore 4, 2) := by decide +kernel
theorem dX8_next_39 : decode cX8_next 39 = .ok (.iload 4, 2) := by decide +kernel
theorem dX8_next_41 : decode cX8_next 41 = .ok (.ifCond .eq 25, 3) := by decide +kernel
theorem dX8_next_44 : decode cX8_next 44 = .ok (.iload_n 2, 1) := by decide +kernel
theorem dX8_next_45 : decode cX8_next 45 = .ok (.iconst (-1), 1) := by decide +kernel
theorem dX8_next_46 : decode cX8_next 46 = .ok (.if_icmp .eq 16, 3) := by decide +kernel
theorem dX8_next_49 : decode cX8_next 49 = .ok (.aload_n 0, 1) := by decide +kernel
theorem dX8_next_50 : decode cX8_next 50 = .ok (.iload_n 3, 1) := by decide +kernel
theorem dX8_next_51 : decode cX8_next 51 = .ok (.invokevirtual 55, 3) := by decide +kernel
theorem dX8_next_54 : decode cX8_next 54 = .ok (.aload_n 0, 1) := by decide +kernel
theorem dX8_next_55 : decode cX8_next 55 = .ok (.iload_n 2, 1) := by decide +kernel
theorem dX8_next_56 : decode cX8_next 56 = .ok (.invokevirtual 55, 3) := by decide +kernel
theorem dX8_next_59 : decode cX8_next 59 = .ok (.if_icmp .ge 7, 3) := by decide +kernel
theorem dX8_next_62 : decode cX8_next 62 = .ok (.iload_n 3, 1) := by decide +kernel
theorem dX8_next_63 : decode cX8_next 63 = .ok (.goto 4, 3) := by decide +kernel
theorem dX8_next_66 : decode cX8_next 66 = .ok (.iload_n 2, 1) := by decide +kernel
theorem dX8_next_67 : decode cX8_next 67 = .ok (.istore_n 2, 1) := by decide +kernel
theorem dX8_next_68 : decode cX8_next 68 = .ok (.iinc 3 1, 3) := by decide +kernel
theorem dX8_next_71 : decode cX8_next 71 = .ok (.goto (-67), 3) := by decide +kernel
theorem dX8_next_74 : decode cX8_next 74 = .ok (.iload_n 2, 1) := by decide +kernel
theorem dX8_next_75 : decode cX8_next 75 = .ok (.ireturn, 1) := by decide +kernel
theorem dX8_keptRows_0 : decode cX8_keptRows 0 = .ok (.aload_n 0, 1) := by decide +kernel
theorem dX8_keptRows_1 : decode cX8_keptRows 1 = .ok (.getfield 7, 3) := by decide +kernel
theorem dX8_keptRows_4 : decode cX8_keptRows 4 = .ok (.iconst 2, 1) := by decide +kernel
theorem dX8_keptRows_5 : decode cX8_keptRows 5 = .ok (.iaload, 1) := by decide +kernel
theorem dX8_keptRows_6 : decode cX8_keptRows 6 = .ok (.aload_n 0, 1) := by decide +kernel
theorem dX8_keptRows_7 : decode cX8_keptRows 7 = .ok (.getfield 7, 3) := by decide +kernel
theorem dX8_keptRows_10 : decode cX8_keptRows 10 = .ok (.iconst 3, 1) := by decide +kernel
theorem dX8_keptRows_11 : decode cX8_keptRows 11 = .ok (.iaload, 1) := by decide +kernel
theorem dX8_keptRows_12 : decode cX8_keptRows 12 = .ok (.isub, 1) := by decide +kernel
theorem dX8_keptRows_13 : decode cX8_keptRows 13 = .ok (.ireturn, 1) := by decide +kernel
theorem dX8_wants_0 : decode cX8_wants 0 = .ok (.aload_n 0, 1) := by decide +kernel
theorem dX8_wants_1 : decode cX8_wants 1 = .ok (.iload_n 1, 1) := by decide +kernel
theorem dX8_wants_2 : decode cX8_wants 2 = .ok (.iconst 0, 1) := by decide +kernel
theorem dX8_wants_3 : decode cX8_wants 3 = .ok (.invokevirtual 58, 3) := by decide +kernel
theorem dX8_wants_6 : decode cX8_wants 6 = .ok (.iload_n 2, 1) := by decide +kernel
theorem dX8_wants_7 : decode cX8_wants 7 = .ok (.ishr, 1) := by decide +kernel
theorem dX8_wants_8 : decode cX8_wants 8 = .ok (.iconst 1, 1) := by decide +kernel
theorem dX8_wants_9 : decode cX8_wants 9 = .ok (.iand, 1) := by decide +kernel
theorem dX8_wants_10 : decode cX8_wants 10 = .ok (.iconst 1, 1) := by decide +kernel
theorem dX8_wants_11 : decode cX8_wants 11 = .ok (.if_icmp .ne 7, 3) := by decide +kernel
theorem dX8_wants_14 : decode cX8_wants 14 = .ok (.iconst 1, 1) := by decide +kernel
theorem dX8_wants_15 : decode cX8_wants 15 = .ok (.goto 4, 3) := by decide +kernel
theorem dX8_wants_18 : decode cX8_wants 18 = .ok (.iconst 0, 1) := by decide +kernel
theorem dX8_wants_19 : decode cX8_wants 19 = .ok (.ireturn, 1) := by decide +kernel
theorem dX8_isAnswered_0 : decode cX8_isAnswered 0 = .ok (.aload_n 0, 1) := by decide +kernel
theorem dX8_isAnswered_1 : decode cX8_isAnswered 1 = .ok (.iload_n 2, 1) := by decide +kernel
theorem dX8_isAnswered_2 : decode cX8_isAnswered 2 = .ok (.aload_n 0, 1) := by decide +kernel
theorem dX8_isAnswered_3 : decode cX8_isAnswered 3 = .ok (.iload_n 1, 1) := by decide +kernel
theorem dX8_isAnswered_4 : decode cX8_isAnswered 4 = .ok (.invokevirtual 61, 3) := by decide +kernel
theorem dX8_isAnswered_7 : decode cX8_isAnswered 7 = .ok (.invokevirtual 64, 3) := by decide +kernel
theorem dX8_isAnswered_10 : decode cX8_isAnswered 10 = .ok (.ifCond .eq 18, 3) := by decide +kernel
theorem dX8_isAnswered_13 : decode cX8_isAnswered 13 = .ok (.aload_n 0, 1) := by decide +kernel
theorem dX8_isAnswered_14 : decode cX8_isAnswered 14 = .ok (.iload_n 1, 1) := by decide +kernel
theorem dX8_isAnswered_15 : decode cX8_isAnswered 15 = .ok (.invokevirtual 55, 3) := by decide +kernel
theorem dX8_isAnswered_18 : decode cX8_isAnswered 18 = .ok (.aload_n 0, 1) := by decide +kernel
theorem dX8_isAnswered_19 : decode cX8_isAnswered 19 = .ok (.iload_n 2, 1) := by decide +kernel
theorem dX8_isAnswered_20 : decode cX8_isAnswered 20 = .ok (.bipush 8, 2) := by decide +kernel
theorem dX8_isAnswered_22 : decode cX8_isAnswered 22 = .ok (.invokevirtual 58, 3) := by decide +kernel
theorem dX8_isAnswered_25 : decode cX8_isAnswered 25 = .ok (.if_icmp .gt 7, 3) := by decide +kernel
theorem dX8_isAnswered_28 : decode cX8_isAnswered 28 = .ok (.iconst 1, 1) := by decide +kernel
theorem dX8_isAnswered_29 : decode cX8_isAnswered 29 = .ok (.goto 4, 3) := by decide +kernel
theorem dX8_isAnswered_32 : decode cX8_isAnswered 32 = .ok (.iconst 0, 1) := by decide +kernel
theorem dX8_isAnswered_33 : decode cX8_isAnswered 33 = .ok (.ireturn, 1) := by decide +kernel
theorem dX8_answeredBy_0 : decode cX8_answeredBy 0 = .ok (.iconst 0, 1) := by decide +kernel
theorem dX8_answeredBy_1 : decode cX8_answeredBy 1 = .ok (.istore_n 2, 1) := by decide +kernel
theorem dX8_answeredBy_2 : decode cX8_answeredBy 2 = .ok (.iconst 0, 1) := by decide +kernel
theorem dX8_answeredBy_3 : decode cX8_answeredBy 3 = .ok (.istore_n 3, 1) := by decide +kernel
theorem dX8_answeredBy_4 : decode cX8_answeredBy 4 = .ok (.iload_n 3, 1) := by decide +kernel
theorem dX8_answeredBy_5 : decode cX8_answeredBy 5 = .ok (.iconst 3, 1) := by decide +kernel
theorem dX8_answeredBy_6 : decode cX8_answeredBy 6 = .ok (.if_icmp .ge 28, 3) := by decide +kernel
theorem dX8_answeredBy_9 : decode cX8_answeredBy 9 = .ok (.iload_n 2, 1) := by decide +kernel
theorem dX8_answeredBy_10 : decode cX8_answeredBy 10 = .ok (.aload_n 0, 1) := by decide +kernel
theorem dX8_answeredBy_11 : decode cX8_answeredBy 11 = .ok (.iload_n 1, 1) := by decide +kernel
theorem dX8_answeredBy_12 : decode cX8_answeredBy 12 = .ok (.iload_n 3, 1) := by decide +kernel
theorem dX8_answeredBy_13 : decode cX8_answeredBy 13 = .ok (.invokevirtual 67, 3) := by decide +kernel
theorem dX8_answeredBy_16 : decode cX8_answeredBy 16 = .ok (.ifCond .eq 9, 3) := by decide +kernel
theorem dX8_answeredBy_19 : decode cX8_answeredBy 19 = .ok (.iconst 1, 1) := by decide +kernel
theorem dX8_answeredBy_20 : decode cX8_answeredBy 20 = .ok (.iload_n 3, 1) := by decide +kernel
theorem dX8_answeredBy_21 : decode cX8_answeredBy 21 = .ok (.ishl, 1) := by decide +kernel
theorem dX8_answeredBy_22 : decode cX8_answeredBy 22 = .ok (.goto 4, 3) := by decide +kernel
theorem dX8_answeredBy_25 : decode cX8_answeredBy 25 = .ok (.iconst 0, 1) := by decide +kernel
theorem dX8_answeredBy_26 : decode cX8_answeredBy 26 = .ok (.ior, 1) := by decide +kernel
theorem dX8_answeredBy_27 : decode cX8_answeredBy 27 = .ok (.istore_n 2, 1) := by decide +kernel
theorem dX8_answeredBy_28 : decode cX8_answeredBy 28 = .ok (.iinc 3 1, 3) := by decide +kernel
theorem dX8_answeredBy_31 : decode cX8_answeredBy 31 = .ok (.goto (-27), 3) := by decide +kernel
theorem dX8_answeredBy_34 : decode cX8_answeredBy 34 = .ok (.iload_n 2, 1) := by decide +kernel
theorem dX8_answeredBy_35 : decode cX8_answeredBy 35 = .ok (.ireturn, 1) := by decide +kernel
theorem dX8_rowsFor_0 : decode cX8_rowsFor 0 = .ok (.iconst 0, 1) := by decide +kernel
theorem dX8_rowsFor_1 : decode cX8_rowsFor 1 = .ok (.istore_n 2, 1) := by decide +kernel
theorem dX8_rowsFor_2 : decode cX8_rowsFor 2 = .ok (.iconst 0, 1) := by decide +kernel
theorem dX8_rowsFor_3 : decode cX8_rowsFor 3 = .ok (.istore_n 3, 1) := by decide +kernel
theorem dX8_rowsFor_4 : decode cX8_rowsFor 4 = .ok (.iload_n 3, 1) := by decide +kernel
theorem dX8_rowsFor_5 : decode cX8_rowsFor 5 = .ok (.aload_n 0, 1) := by decide +kernel
theorem dX8_rowsFor_6 : decode cX8_rowsFor 6 = .ok (.getfield 7, 3) := by decide +kernel
theorem dX8_rowsFor_9 : decode cX8_rowsFor 9 = .ok (.iconst 2, 1) := by decide +kernel
theorem dX8_rowsFor_10 : decode cX8_rowsFor 10 = .ok (.iaload, 1) := by decide +kernel
theorem dX8_rowsFor_11 : decode cX8_rowsFor 11 = .ok (.if_icmp .ge 35, 3) := by decide +kernel
theorem dX8_rowsFor_14 : decode cX8_rowsFor 14 = .ok (.iload_n 2, 1) := by decide +kernel
theorem dX8_rowsFor_15 : decode cX8_rowsFor 15 = .ok (.aload_n 0, 1) := by decide +kernel
theorem dX8_rowsFor_16 : decode cX8_rowsFor 16 = .ok (.iload_n 3, 1) := by decide +kernel
theorem dX8_rowsFor_17 : decode cX8_rowsFor 17 = .ok (.iconst 0, 1) := by decide +kernel
theorem dX8_rowsFor_18 : decode cX8_rowsFor 18 = .ok (.invokevirtual 51, 3) := by decide +kernel
theorem dX8_rowsFor_21 : decode cX8_rowsFor 21 = .ok (.ifCond .ne 16, 3) := by decide +kernel
theorem dX8_rowsFor_24 : decode cX8_rowsFor 24 = .ok (.aload_n 0, 1) := by decide +kernel
theorem dX8_rowsFor_25 : decode cX8_rowsFor 25 = .ok (.iload_n 3, 1) := by decide +kernel
theorem dX8_rowsFor_26 : decode cX8_rowsFor 26 = .ok (.iload_n 1, 1) := by decide +kernel
theorem dX8_rowsFor_27 : decode cX8_rowsFor 27 = .ok (.invokevirtual 67, 3) := by decide +kernel
theorem dX8_rowsFor_30 : decode cX8_rowsFor 30 = .ok (.ifCond .ne 7, 3) := by decide +kernel
theorem dX8_rowsFor_33 : decode cX8_rowsFor 33 = .ok (.iconst 1, 1) := by decide +kernel
theorem dX8_rowsFor_34 : decode cX8_rowsFor 34 = .ok (.goto 4, 3) := by decide +kernel
theorem dX8_rowsFor_37 : decode cX8_rowsFor 37 = .ok (.iconst 0, 1) := by decide +kernel
theorem dX8_rowsFor_38 : decode cX8_rowsFor 38 = .ok (.iadd, 1) := by decide +kernel
theorem dX8_rowsFor_39 : decode cX8_rowsFor 39 = .ok (.istore_n 2, 1) := by decide +kernel
theorem dX8_rowsFor_40 : decode cX8_rowsFor 40 = .ok (.iinc 3 1, 3) := by decide +kernel
theorem dX8_rowsFor_43 : decode cX8_rowsFor 43 = .ok (.goto (-39), 3) := by decide +kernel
theorem dX8_rowsFor_46 : decode cX8_rowsFor 46 = .ok (.iload_n 2, 1) := by decide +kernel
theorem dX8_rowsFor_47 : decode cX8_rowsFor 47 = .ok (.ireturn, 1) := by decide +kernel
theorem dX8_save_0 : decode cX8_save 0 = .ok (.aload_n 0, 1) := by decide +kernel
theorem dX8_save_1 : decode cX8_save 1 = .ok (.getfield 70, 3) := by decide +kernel
theorem dX8_save_4 : decode cX8_save 4 = .ok (.bipush 6, 2) := by decide +kernel
theorem dX8_save_6 : decode cX8_save 6 = .ok (.if_icmp .ne 44, 3) := by decide +kernel
theorem dX8_save_9 : decode cX8_save 9 = .ok (.iconst 0, 1) := by decide +kernel
theorem dX8_save_10 : decode cX8_save 10 = .ok (.istore_n 1, 1) := by decide +kernel
theorem dX8_save_11 : decode cX8_save 11 = .ok (.iload_n 1, 1) := by decide +kernel
theorem dX8_save_12 : decode cX8_save 12 = .ok (.sipush 8255, 3) := by decide +kernel
theorem dX8_save_15 : decode cX8_save 15 = .ok (.if_icmp .ge 25, 3) := by decide +kernel
theorem dX8_save_18 : decode cX8_save 18 = .ok (.aload_n 0, 1) := by decide +kernel
theorem dX8_save_19 : decode cX8_save 19 = .ok (.getfield 13, 3) := by decide +kernel
theorem dX8_save_22 : decode cX8_save 22 = .ok (.iload_n 1, 1) := by decide +kernel
theorem dX8_save_23 : decode cX8_save 23 = .ok (.aload_n 0, 1) := by decide +kernel
theorem dX8_save_24 : decode cX8_save 24 = .ok (.getfield 13, 3) := by decide +kernel
theorem dX8_save_27 : decode cX8_save 27 = .ok (.sipush 1651, 3) := by decide +kernel
theorem dX8_save_30 : decode cX8_save 30 = .ok (.iload_n 1, 1) := by decide +kernel
theorem dX8_save_31 : decode cX8_save 31 = .ok (.iadd, 1) := by decide +kernel
theorem dX8_save_32 : decode cX8_save 32 = .ok (.iaload, 1) := by decide +kernel
theorem dX8_save_33 : decode cX8_save 33 = .ok (.iastore, 1) := by decide +kernel
theorem dX8_save_34 : decode cX8_save 34 = .ok (.iinc 1 1, 3) := by decide +kernel
theorem dX8_save_37 : decode cX8_save 37 = .ok (.goto (-26), 3) := by decide +kernel
theorem dX8_save_40 : decode cX8_save 40 = .ok (.aload_n 0, 1) := by decide +kernel
theorem dX8_save_41 : decode cX8_save 41 = .ok (.dup, 1) := by decide +kernel
theorem dX8_save_42 : decode cX8_save 42 = .ok (.getfield 70, 3) := by decide +kernel
theorem dX8_save_45 : decode cX8_save 45 = .ok (.iconst 1, 1) := by decide +kernel
theorem dX8_save_46 : decode cX8_save 46 = .ok (.isub, 1) := by decide +kernel
theorem dX8_save_47 : decode cX8_save 47 = .ok (.putfield 70, 3) := by decide +kernel
theorem dX8_save_50 : decode cX8_save 50 = .ok (.iconst 0, 1) := by decide +kernel
theorem dX8_save_51 : decode cX8_save 51 = .ok (.istore_n 1, 1) := by decide +kernel
theorem dX8_save_52 : decode cX8_save 52 = .ok (.iload_n 1, 1) := by decide +kernel
theorem dX8_save_53 : decode cX8_save 53 = .ok (.sipush 1651, 3) := by decide +kernel
theorem dX8_save_56 : decode cX8_save 56 = .ok (.if_icmp .ge 30, 3) := by decide +kernel
theorem dX8_save_59 : decode cX8_save 59 = .ok (.aload_n 0, 1) := by decide +kernel
theorem dX8_save_60 : decode cX8_save 60 = .ok (.getfield 13, 3) := by decide +kernel
theorem dX8_save_63 : decode cX8_save 63 = .ok (.sipush 1651, 3) := by decide +kernel
theorem dX8_save_66 : decode cX8_save 66 = .ok (.aload_n 0, 1) := by decide +kernel
theorem dX8_save_67 : decode cX8_save 67 = .ok (.getfield 70, 3) := by decide +kernel
theorem dX8_save_70 : decode cX8_save 70 = .ok (.imul, 1) := by decide +kernel
theorem dX8_save_71 : decode cX8_save 71 = .ok (.iload_n 1, 1) := by decide +kernel
theorem dX8_save_72 : decode cX8_save 72 = .ok (.iadd, 1) := by decide +kernel
theorem dX8_save_73 : decode cX8_save 73 = .ok (.aload_n 0, 1) := by decide +kernel
theorem dX8_save_74 : decode cX8_save 74 = .ok (.getfield 7, 3) := by decide +kernel
theorem dX8_save_77 : decode cX8_save 77 = .ok (.iload_n 1, 1) := by decide +kernel
theorem dX8_save_78 : decode cX8_save 78 = .ok (.iaload, 1) := by decide +kernel
theorem dX8_save_79 : decode cX8_save 79 = .ok (.iastore, 1) := by decide +kernel
theorem dX8_save_80 : decode cX8_save 80 = .ok (.iinc 1 1, 3) := by decide +kernel
theorem dX8_save_83 : decode cX8_save 83 = .ok (.goto (-31), 3) := by decide +kernel
theorem dX8_save_86 : decode cX8_save 86 = .ok (.aload_n 0, 1) := by decide +kernel
theorem dX8_save_87 : decode cX8_save 87 = .ok (.dup, 1) := by decide +kernel
theorem dX8_save_88 : decode cX8_save 88 = .ok (.getfield 70, 3) := by decide +kernel
theorem dX8_save_91 : decode cX8_save 91 = .ok (.iconst 1, 1) := by decide +kernel
theorem dX8_save_92 : decode cX8_save 92 = .ok (.iadd, 1) := by decide +kernel
theorem dX8_save_93 : decode cX8_save 93 = .ok (.putfield 70, 3) := by decide +kernel
theorem dX8_save_96 : decode cX8_save 96 = .ok (.return_, 1) := by decide +kernel
theorem dX8_undo_0 : decode cX8_undo 0 = .ok (.aload_n 0, 1) := by decide +kernel
theorem dX8_undo_1 : decode cX8_undo 1 = .ok (.iconst 0, 1) := by decide +kernel
theorem dX8_undo_2 : decode cX8_undo 2 = .ok (.putfield 35, 3) := by decide +kernel
theorem dX8_undo_5 : decode cX8_undo 5 = .ok (.aload_n 0, 1) := by decide +kernel
theorem dX8_undo_6 : decode cX8_undo 6 = .ok (.getfield 70, 3) := by decide +kernel
theorem dX8_undo_9 : decode cX8_undo 9 = .ok (.ifCond .ne 9, 3) := by decide +kernel
theorem dX8_undo_12 : decode cX8_undo 12 = .ok (.aload_n 0, 1) := by decide +kernel
theorem dX8_undo_13 : decode cX8_undo 13 = .ok (.iconst 1, 1) := by decide +kernel
theorem dX8_undo_14 : decode cX8_undo 14 = .ok (.invokevirtual 73, 3) := by decide +kernel
theorem dX8_undo_17 : decode cX8_undo 17 = .ok (.ireturn, 1) := by decide +kernel
theorem dX8_undo_18 : decode cX8_undo 18 = .ok (.aload_n 0, 1) := by decide +kernel
theorem dX8_undo_19 : decode cX8_undo 19 = .ok (.dup, 1) := by decide +kernel
theorem dX8_undo_20 : decode cX8_undo 20 = .ok (.getfield 70, 3) := by decide +kernel
theorem dX8_undo_23 : decode cX8_undo 23 = .ok (.iconst 1, 1) := by decide +kernel
theorem dX8_undo_24 : decode cX8_undo 24 = .ok (.isub, 1) := by decide +kernel
theorem dX8_undo_25 : decode cX8_undo 25 = .ok (.putfield 70, 3) := by decide +kernel
theorem dX8_undo_28 : decode cX8_undo 28 = .ok (.iconst 0, 1) := by decide +kernel
theorem dX8_undo_29 : decode cX8_undo 29 = .ok (.istore_n 1, 1) := by decide +kernel
theorem dX8_undo_30 : decode cX8_undo 30 = .ok (.iload_n 1, 1) := by decide +kernel
theorem dX8_undo_31 : decode cX8_undo 31 = .ok (.sipush 1651, 3) := by decide +kernel
theorem dX8_undo_34 : decode cX8_undo 34 = .ok (.if_icmp .ge 30, 3) := by decide +kernel
theorem dX8_undo_37 : decode cX8_undo 37 = .ok (.aload_n 0, 1) := by decide +kernel
theorem dX8_undo_38 : decode cX8_undo 38 = .ok (.getfield 7, 3) := by decide +kernel
theorem dX8_undo_41 : decode cX8_undo 41 = .ok (.iload_n 1, 1) := by decide +kernel
theorem dX8_undo_42 : decode cX8_undo 42 = .ok (.aload_n 0, 1) := by decide +kernel
theorem dX8_undo_43 : decode cX8_undo 43 = .ok (.getfield 13, 3) := by decide +kernel
theorem dX8_undo_46 : decode cX8_undo 46 = .ok (.sipush 1651, 3) := by decide +kernel
theorem dX8_undo_49 : decode cX8_undo 49 = .ok (.aload_n 0, 1) := by decide +kernel
theorem dX8_undo_50 : decode cX8_undo 50 = .ok (.getfield 70, 3) := by decide +kernel
theorem dX8_undo_53 : decode cX8_undo 53 = .ok (.imul, 1) := by decide +kernel
theorem dX8_undo_54 : decode cX8_undo 54 = .ok (.iload_n 1, 1) := by decide +kernel
theorem dX8_undo_55 : decode cX8_undo 55 = .ok (.iadd, 1) := by decide +kernel
theorem dX8_undo_56 : decode cX8_undo 56 = .ok (.iaload, 1) := by decide +kernel
theorem dX8_undo_57 : decode cX8_undo 57 = .ok (.iastore, 1) := by decide +kernel
theorem dX8_undo_58 : decode cX8_undo 58 = .ok (.iinc 1 1, 3) := by decide +kernel
theorem dX8_undo_61 : decode cX8_undo 61 = .ok (.goto (-31), 3) := by decide +kernel
theorem dX8_undo_64 : decode cX8_undo 64 = .ok (.aload_n 0, 1) := by decide +kernel
theorem dX8_undo_65 : decode cX8_undo 65 = .ok (.getfield 70, 3) := by decide +kernel
theorem dX8_undo_68 : decode cX8_undo 68 = .ok (.ireturn, 1) := by decide +kernel
theorem dX8_keep_0 : decode cX8_keep 0 = .ok (.aload_n 0, 1) := by decide +kernel
theorem dX8_keep_1 : decode cX8_keep 1 = .ok (.iconst 0, 1) := by decide +kernel
theorem dX8_keep_2 : decode cX8_keep 2 = .ok (.putfield 35, 3) := by decide +kernel
theorem dX8_keep_5 : decode cX8_keep 5 = .ok (.iconst 0, 1) := by decide +kernel
theorem dX8_keep_6 : decode cX8_keep 6 = .ok (.istore_n 1, 1) := by decide +kernel
theorem dX8_keep_7 : decode cX8_keep 7 = .ok (.iload_n 1, 1) := by decide +kernel
theorem dX8_keep_8 : decode cX8_keep 8 = .ok (.sipush 1651, 3) := by decide +kernel
theorem dX8_keep_11 : decode cX8_keep 11 = .ok (.if_icmp .ge 21, 3) := by decide +kernel
theorem dX8_keep_14 : decode cX8_keep 14 = .ok (.aload_n 0, 1) := by decide +kernel
theorem dX8_keep_15 : decode cX8_keep 15 = .ok (.getfield 16, 3) := by decide +kernel
theorem dX8_keep_18 : decode cX8_keep 18 = .ok (.iload_n 1, 1) := by decide +kernel
theorem dX8_keep_19 : decode cX8_keep 19 = .ok (.aload_n 0, 1) := by decide +kernel
theorem dX8_keep_20 : decode cX8_keep 20 = .ok (.getfield 7, 3) := by decide +kernel
theorem dX8_keep_23 : decode cX8_keep 23 = .ok (.iload_n 1, 1) := by decide +kernel
theorem dX8_keep_24 : decode cX8_keep 24 = .ok (.iaload, 1) := by decide +kernel
theorem dX8_keep_25 : decode cX8_keep 25 = .ok (.iastore, 1) := by decide +kernel
theorem dX8_keep_26 : decode cX8_keep 26 = .ok (.iinc 1 1, 3) := by decide +kernel
theorem dX8_keep_29 : decode cX8_keep 29 = .ok (.goto (-22), 3) := by decide +kernel
theorem dX8_keep_32 : decode cX8_keep 32 = .ok (.aload_n 0, 1) := by decide +kernel
theorem dX8_keep_33 : decode cX8_keep 33 = .ok (.iconst 1, 1) := by decide +kernel
theorem dX8_keep_34 : decode cX8_keep 34 = .ok (.putfield 76, 3) := by decide +kernel
theorem dX8_keep_37 : decode cX8_keep 37 = .ok (.aload_n 0, 1) := by decide +kernel
theorem dX8_keep_38 : decode cX8_keep 38 = .ok (.getfield 7, 3) := by decide +kernel
theorem dX8_keep_41 : decode cX8_keep 41 = .ok (.iconst 0, 1) := by decide +kernel
theorem dX8_keep_42 : decode cX8_keep 42 = .ok (.iaload, 1) := by decide +kernel
theorem dX8_keep_43 : decode cX8_keep 43 = .ok (.ireturn, 1) := by decide +kernel
theorem dX8_goBack_0 : decode cX8_goBack 0 = .ok (.aload_n 0, 1) := by decide +kernel
theorem dX8_goBack_1 : decode cX8_goBack 1 = .ok (.iconst 0, 1) := by decide +kernel
theorem dX8_goBack_2 : decode cX8_goBack 2 = .ok (.putfield 35, 3) := by decide +kernel
theorem dX8_goBack_5 : decode cX8_goBack 5 = .ok (.aload_n 0, 1) := by decide +kernel
theorem dX8_goBack_6 : decode cX8_goBack 6 = .ok (.getfield 76, 3) := by decide +kernel
theorem dX8_goBack_9 : decode cX8_goBack 9 = .ok (.ifCond .ne 9, 3) := by decide +kernel
theorem dX8_goBack_12 : decode cX8_goBack 12 = .ok (.aload_n 0, 1) := by decide +kernel
theorem dX8_goBack_13 : decode cX8_goBack 13 = .ok (.iconst 1, 1) := by decide +kernel
theorem dX8_goBack_14 : decode cX8_goBack 14 = .ok (.invokevirtual 73, 3) := by decide +kernel
theorem dX8_goBack_17 : decode cX8_goBack 17 = .ok (.ireturn, 1) := by decide +kernel
theorem dX8_goBack_18 : decode cX8_goBack 18 = .ok (.aload_n 0, 1) := by decide +kernel
theorem dX8_goBack_19 : decode cX8_goBack 19 = .ok (.invokevirtual 80, 3) := by decide +kernel
theorem dX8_goBack_22 : decode cX8_goBack 22 = .ok (.iconst 0, 1) := by decide +kernel
theorem dX8_goBack_23 : decode cX8_goBack 23 = .ok (.istore_n 1, 1) := by decide +kernel
theorem dX8_goBack_24 : decode cX8_goBack 24 = .ok (.iload_n 1, 1) := by decide +kernel
theorem dX8_goBack_25 : decode cX8_goBack 25 = .ok (.sipush 1651, 3) := by decide +kernel
theorem dX8_goBack_28 : decode cX8_goBack 28 = .ok (.if_icmp .ge 21, 3) := by decide +kernel
theorem dX8_goBack_31 : decode cX8_goBack 31 = .ok (.aload_n 0, 1) := by decide +kernel
theorem dX8_goBack_32 : decode cX8_goBack 32 = .ok (.getfield 7, 3) := by decide +kernel
theorem dX8_goBack_35 : decode cX8_goBack 35 = .ok (.iload_n 1, 1) := by decide +kernel
theorem dX8_goBack_36 : decode cX8_goBack 36 = .ok (.aload_n 0, 1) := by decide +kernel
theorem dX8_goBack_37 : decode cX8_goBack 37 = .ok (.getfield 16, 3) := by decide +kernel
theorem dX8_goBack_40 : decode cX8_goBack 40 = .ok (.iload_n 1, 1) := by decide +kernel
theorem dX8_goBack_41 : decode cX8_goBack 41 = .ok (.iaload, 1) := by decide +kernel
theorem dX8_goBack_42 : decode cX8_goBack 42 = .ok (.iastore, 1) := by decide +kernel
theorem dX8_goBack_43 : decode cX8_goBack 43 = .ok (.iinc 1 1, 3) := by decide +kernel
theorem dX8_goBack_46 : decode cX8_goBack 46 = .ok (.goto (-22), 3) := by decide +kernel
theorem dX8_goBack_49 : decode cX8_goBack 49 = .ok (.aload_n 0, 1) := by decide +kernel
theorem dX8_goBack_50 : decode cX8_goBack 50 = .ok (.getfield 7, 3) := by decide +kernel
theorem dX8_goBack_53 : decode cX8_goBack 53 = .ok (.iconst 0, 1) := by decide +kernel
theorem dX8_goBack_54 : decode cX8_goBack 54 = .ok (.iaload, 1) := by decide +kernel
theorem dX8_goBack_55 : decode cX8_goBack 55 = .ok (.ireturn, 1) := by decide +kernel
theorem dX8_layAside_0 : decode cX8_layAside 0 = .ok (.iconst 0, 1) := by decide +kernel
theorem dX8_layAside_1 : decode cX8_layAside 1 = .ok (.istore_n 1, 1) := by decide +kernel
theorem dX8_layAside_2 : decode cX8_layAside 2 = .ok (.iload_n 1, 1) := by decide +kernel
theorem dX8_layAside_3 : decode cX8_layAside 3 = .ok (.sipush 1651, 3) := by decide +kernel
theorem dX8_layAside_6 : decode cX8_layAside 6 = .ok (.if_icmp .ge 21, 3) := by decide +kernel
theorem dX8_layAside_9 : decode cX8_layAside 9 = .ok (.aload_n 0, 1) := by decide +kernel
theorem dX8_layAside_10 : decode cX8_layAside 10 = .ok (.getfield 19, 3) := by decide +kernel
theorem dX8_layAside_13 : decode cX8_layAside 13 = .ok (.iload_n 1, 1) := by decide +kernel
theorem dX8_layAside_14 : decode cX8_layAside 14 = .ok (.aload_n 0, 1) := by decide +kernel
theorem dX8_layAside_15 : decode cX8_layAside 15 = .ok (.getfield 7, 3) := by decide +kernel
theorem dX8_layAside_18 : decode cX8_layAside 18 = .ok (.iload_n 1, 1) := by decide +kernel
theorem dX8_layAside_19 : decode cX8_layAside 19 = .ok (.iaload, 1) := by decide +kernel
theorem dX8_layAside_20 : decode cX8_layAside 20 = .ok (.iastore, 1) := by decide +kernel
theorem dX8_layAside_21 : decode cX8_layAside 21 = .ok (.iinc 1 1, 3) := by decide +kernel
theorem dX8_layAside_24 : decode cX8_layAside 24 = .ok (.goto (-22), 3) := by decide +kernel
theorem dX8_layAside_27 : decode cX8_layAside 27 = .ok (.return_, 1) := by decide +kernel
theorem dX8_putBack_0 : decode cX8_putBack 0 = .ok (.iconst 0, 1) := by decide +kernel
theorem dX8_putBack_1 : decode cX8_putBack 1 = .ok (.istore_n 1, 1) := by decide +kernel
theorem dX8_putBack_2 : decode cX8_putBack 2 = .ok (.iload_n 1, 1) := by decide +kernel
theorem dX8_putBack_3 : decode cX8_putBack 3 = .ok (.sipush 1651, 3) := by decide +kernel
theorem dX8_putBack_6 : decode cX8_putBack 6 = .ok (.if_icmp .ge 21, 3) := by decide +kernel
theorem dX8_putBack_9 : decode cX8_putBack 9 = .ok (.aload_n 0, 1) := by decide +kernel
theorem dX8_putBack_10 : decode cX8_putBack 10 = .ok (.getfield 7, 3) := by decide +kernel
theorem dX8_putBack_13 : decode cX8_putBack 13 = .ok (.iload_n 1, 1) := by decide +kernel
theorem dX8_putBack_14 : decode cX8_putBack 14 = .ok (.aload_n 0, 1) := by decide +kernel
theorem dX8_putBack_15 : decode cX8_putBack 15 = .ok (.getfield 19, 3) := by decide +kernel
theorem dX8_putBack_18 : decode cX8_putBack 18 = .ok (.iload_n 1, 1) := by decide +kernel
theorem dX8_putBack_19 : decode cX8_putBack 19 = .ok (.iaload, 1) := by decide +kernel
theorem dX8_putBack_20 : decode cX8_putBack 20 = .ok (.iastore, 1) := by decide +kernel
theorem dX8_putBack_21 : decode cX8_putBack 21 = .ok (.iinc 1 1, 3) := by decide +kernel
theorem dX8_putBack_24 : decode cX8_putBack 24 = .ok (.goto (-22), 3) := by decide +kernel
theorem dX8_putBack_27 : decode cX8_putBack 27 = .ok (.return_, 1) := by decide +kernel
theorem dX8_freePlace_0 : decode cX8_freePlace 0 = .ok (.iconst 0, 1) := by decide +kernel
theorem dX8_freePlace_1 : decode cX8_freePlace 1 = .ok (.istore_n 1, 1) := by decide +kernel
theorem dX8_freePlace_2 : decode cX8_freePlace 2 = .ok (.iload_n 1, 1) := by decide +kernel
theorem dX8_freePlace_3 : decode cX8_freePlace 3 = .ok (.iconst 4, 1) := by decide +kernel
theorem dX8_freePlace_4 : decode cX8_freePlace 4 = .ok (.if_icmp .ge 20, 3) := by decide +kernel
theorem dX8_freePlace_7 : decode cX8_freePlace 7 = .ok (.aload_n 0, 1) := by decide +kernel
theorem dX8_freePlace_8 : decode cX8_freePlace 8 = .ok (.iload_n 1, 1) := by decide +kernel
theorem dX8_freePlace_9 : decode cX8_freePlace 9 = .ok (.iconst 0, 1) := by decide +kernel
theorem dX8_freePlace_10 : decode cX8_freePlace 10 = .ok (.invokevirtual 43, 3) := by decide +kernel
theorem dX8_freePlace_13 : decode cX8_freePlace 13 = .ok (.ifCond .ne 5, 3) := by decide +kernel
theorem dX8_freePlace_16 : decode cX8_freePlace 16 = .ok (.iload_n 1, 1) := by decide +kernel
theorem dX8_freePlace_17 : decode cX8_freePlace 17 = .ok (.ireturn, 1) := by decide +kernel
theorem dX8_freePlace_18 : decode cX8_freePlace 18 = .ok (.iinc 1 1, 3) := by decide +kernel
theorem dX8_freePlace_21 : decode cX8_freePlace 21 = .ok (.goto (-19), 3) := by decide +kernel
theorem dX8_freePlace_24 : decode cX8_freePlace 24 = .ok (.iconst (-1), 1) := by decide +kernel
theorem dX8_freePlace_25 : decode cX8_freePlace 25 = .ok (.ireturn, 1) := by decide +kernel
theorem dX8_begins_0 : decode cX8_begins 0 = .ok (.aload_n 0, 1) := by decide +kernel
theorem dX8_begins_1 : decode cX8_begins 1 = .ok (.invokevirtual 83, 3) := by decide +kernel
theorem dX8_begins_4 : decode cX8_begins 4 = .ok (.istore_n 1, 1) := by decide +kernel
theorem dX8_begins_5 : decode cX8_begins 5 = .ok (.iload_n 1, 1) := by decide +kernel
theorem dX8_begins_6 : decode cX8_begins 6 = .ok (.iconst (-1), 1) := by decide +kernel
theorem dX8_begins_7 : decode cX8_begins 7 = .ok (.if_icmp .ne 6, 3) := by decide +kernel
theorem dX8_begins_10 : decode cX8_begins 10 = .ok (.bipush (-11), 2) := by decide +kernel
theorem dX8_begins_12 : decode cX8_begins 12 = .ok (.ireturn, 1) := by decide +kernel
theorem dX8_begins_13 : decode cX8_begins 13 = .ok (.aload_n 0, 1) := by decide +kernel
theorem dX8_begins_14 : decode cX8_begins 14 = .ok (.getfield 7, 3) := by decide +kernel
theorem dX8_begins_17 : decode cX8_begins 17 = .ok (.bipush 17, 2) := by decide +kernel
theorem dX8_begins_19 : decode cX8_begins 19 = .ok (.bipush 20, 2) := by decide +kernel
theorem dX8_begins_21 : decode cX8_begins 21 = .ok (.iload_n 1, 1) := by decide +kernel
theorem dX8_begins_22 : decode cX8_begins 22 = .ok (.imul, 1) := by decide +kernel
theorem dX8_begins_23 : decode cX8_begins 23 = .ok (.iadd, 1) := by decide +kernel
theorem dX8_begins_24 : decode cX8_begins 24 = .ok (.iconst 0, 1) := by decide +kernel
theorem dX8_begins_25 : decode cX8_begins 25 = .ok (.iadd, 1) := by decide +kernel
theorem dX8_begins_26 : decode cX8_begins 26 = .ok (.iconst 1, 1) := by decide +kernel
theorem dX8_begins_27 : decode cX8_begins 27 = .ok (.iastore, 1) := by decide +kernel
theorem dX8_begins_28 : decode cX8_begins 28 = .ok (.aload_n 0, 1) := by decide +kernel
theorem dX8_begins_29 : decode cX8_begins 29 = .ok (.getfield 7, 3) := by decide +kernel
theorem dX8_begins_32 : decode cX8_begins 32 = .ok (.bipush 17, 2) := by decide +kernel
theorem dX8_begins_34 : decode cX8_begins 34 = .ok (.bipush 20, 2) := by decide +kernel
theorem dX8_begins_36 : decode cX8_begins 36 = .ok (.iload_n 1, 1) := by decide +kernel
theorem dX8_begins_37 : decode cX8_begins 37 = .ok (.imul, 1) := by decide +kernel
theorem dX8_begins_38 : decode cX8_begins 38 = .ok (.iadd, 1) := by decide +kernel
theorem dX8_begins_39 : decode cX8_begins 39 = .ok (.iconst 1, 1) := by decide +kernel
theorem dX8_begins_40 : decode cX8_begins 40 = .ok (.iadd, 1) := by decide +kernel
theorem dX8_begins_41 : decode cX8_begins 41 = .ok (.iconst 0, 1) := by decide +kernel
theorem dX8_begins_42 : decode cX8_begins 42 = .ok (.iastore, 1) := by decide +kernel
theorem dX8_begins_43 : decode cX8_begins 43 = .ok (.iload_n 1, 1) := by decide +kernel
theorem dX8_begins_44 : decode cX8_begins 44 = .ok (.ireturn, 1) := by decide +kernel
theorem dX8_writes_0 : decode cX8_writes 0 = .ok (.aload_n 0, 1) := by decide +kernel
theorem dX8_writes_1 : decode cX8_writes 1 = .ok (.iload_n 1, 1) := by decide +kernel
theorem dX8_writes_2 : decode cX8_writes 2 = .ok (.invokevirtual 87, 3) := by decide +kernel
theorem dX8_writes_5 : decode cX8_writes 5 = .ok (.ifCond .ne 6, 3) := by decide +kernel
theorem dX8_writes_8 : decode cX8_writes 8 = .ok (.bipush (-11), 2) := by decide +kernel
theorem dX8_writes_10 : decode cX8_writes 10 = .ok (.ireturn, 1) := by decide +kernel
theorem dX8_writes_11 : decode cX8_writes 11 = .ok (.iload_n 2, 1) := by decide +kernel
theorem dX8_writes_12 : decode cX8_writes 12 = .ok (.iconst 0, 1) := by decide +kernel
theorem dX8_writes_13 : decode cX8_writes 13 = .ok (.iconst 3, 1) := by decide +kernel
theorem dX8_writes_14 : decode cX8_writes 14 = .ok (.invokestatic 39, 3) := by decide +kernel
theorem dX8_writes_17 : decode cX8_writes 17 = .ok (.ifCond .eq 13, 3) := by decide +kernel
theorem dX8_writes_20 : decode cX8_writes 20 = .ok (.iload_n 3, 1) := by decide +kernel
theorem dX8_writes_21 : decode cX8_writes 21 = .ok (.iconst 0, 1) := by decide +kernel
theorem dX8_writes_22 : decode cX8_writes 22 = .ok (.bipush 99, 2) := by decide +kernel
theorem dX8_writes_24 : decode cX8_writes 24 = .ok (.invokestatic 39, 3) := by decide +kernel
theorem dX8_writes_27 : decode cX8_writes 27 = .ok (.ifCond .ne 6, 3) := by decide +kernel
theorem dX8_writes_30 : decode cX8_writes 30 = .ok (.bipush (-12), 2) := by decide +kernel
theorem dX8_writes_32 : decode cX8_writes 32 = .ok (.ireturn, 1) := by decide +kernel
theorem dX8_writes_33 : decode cX8_writes 33 = .ok (.aload_n 0, 1) := by decide +kernel
theorem dX8_writes_34 : decode cX8_writes 34 = .ok (.iload_n 1, 1) := by decide +kernel
theorem dX8_writes_35 : decode cX8_writes 35 = .ok (.iconst 1, 1) := by decide +kernel
theorem dX8_writes_36 : decode cX8_writes 36 = .ok (.invokevirtual 43, 3) := by decide +kernel
theorem dX8_writes_39 : decode cX8_writes 39 = .ok (.istore 4, 2) := by decide +kernel
theorem dX8_writes_41 : decode cX8_writes 41 = .ok (.iload 4, 2) := by decide +kernel
theorem dX8_writes_43 : decode cX8_writes 43 = .ok (.bipush 6, 2) := by decide +kernel
theorem dX8_writes_45 : decode cX8_writes 45 = .ok (.if_icmp .ne 6, 3) := by decide +kernel
theorem dX8_writes_48 : decode cX8_writes 48 = .ok (.bipush (-13), 2) := by decide +kernel
theorem dX8_writes_50 : decode cX8_writes 50 = .ok (.ireturn, 1) := by decide +kernel
theorem dX8_writes_51 : decode cX8_writes 51 = .ok (.bipush 17, 2) := by decide +kernel
theorem dX8_writes_53 : decode cX8_writes 53 = .ok (.bipush 20, 2) := by decide +kernel
theorem dX8_writes_55 : decode cX8_writes 55 = .ok (.iload_n 1, 1) := by decide +kernel
theorem dX8_writes_56 : decode cX8_writes 56 = .ok (.imul, 1) := by decide +kernel
theorem dX8_writes_57 : decode cX8_writes 57 = .ok (.iadd, 1) := by decide +kernel
theorem dX8_writes_58 : decode cX8_writes 58 = .ok (.iconst 2, 1) := by decide +kernel
theorem dX8_writes_59 : decode cX8_writes 59 = .ok (.iadd, 1) := by decide +kernel
theorem dX8_writes_60 : decode cX8_writes 60 = .ok (.iconst 3, 1) := by decide +kernel
theorem dX8_writes_61 : decode cX8_writes 61 = .ok (.iload 4, 2) := by decide +kernel
theorem dX8_writes_63 : decode cX8_writes 63 = .ok (.imul, 1) := by decide +kernel
theorem dX8_writes_64 : decode cX8_writes 64 = .ok (.iadd, 1) := by decide +kernel
theorem dX8_writes_65 : decode cX8_writes 65 = .ok (.istore 5, 2) := by decide +kernel
theorem dX8_writes_67 : decode cX8_writes 67 = .ok (.aload_n 0, 1) := by decide +kernel
theorem dX8_writes_68 : decode cX8_writes 68 = .ok (.getfield 7, 3) := by decide +kernel
theorem dX8_writes_71 : decode cX8_writes 71 = .ok (.iload 5, 2) := by decide +kernel
theorem dX8_writes_73 : decode cX8_writes 73 = .ok (.iload_n 2, 1) := by decide +kernel
theorem dX8_writes_74 : decode cX8_writes 74 = .ok (.iastore, 1) := by decide +kernel
theorem dX8_writes_75 : decode cX8_writes 75 = .ok (.aload_n 0, 1) := by decide +kernel
theorem dX8_writes_76 : decode cX8_writes 76 = .ok (.getfield 7, 3) := by decide +kernel
theorem dX8_writes_79 : decode cX8_writes 79 = .ok (.iload 5, 2) := by decide +kernel
theorem dX8_writes_81 : decode cX8_writes 81 = .ok (.iconst 1, 1) := by decide +kernel
theorem dX8_writes_82 : decode cX8_writes 82 = .ok (.iadd, 1) := by decide +kernel
theorem dX8_writes_83 : decode cX8_writes 83 = .ok (.iload_n 3, 1) := by decide +kernel
theorem dX8_writes_84 : decode cX8_writes 84 = .ok (.iastore, 1) := by decide +kernel
theorem dX8_writes_85 : decode cX8_writes 85 = .ok (.aload_n 0, 1) := by decide +kernel
theorem dX8_writes_86 : decode cX8_writes 86 = .ok (.getfield 7, 3) := by decide +kernel
theorem dX8_writes_89 : decode cX8_writes 89 = .ok (.iload 5, 2) := by decide +kernel
theorem dX8_writes_91 : decode cX8_writes 91 = .ok (.iconst 2, 1) := by decide +kernel
theorem dX8_writes_92 : decode cX8_writes 92 = .ok (.iadd, 1) := by decide +kernel
theorem dX8_writes_93 : decode cX8_writes 93 = .ok (.aload_n 0, 1) := by decide +kernel
theorem dX8_writes_94 : decode cX8_writes 94 = .ok (.getfield 7, 3) := by decide +kernel
theorem dX8_writes_97 : decode cX8_writes 97 = .ok (.iconst 1, 1) := by decide +kernel
theorem dX8_writes_98 : decode cX8_writes 98 = .ok (.iaload, 1) := by decide +kernel
theorem dX8_writes_99 : decode cX8_writes 99 = .ok (.iastore, 1) := by decide +kernel
theorem dX8_writes_100 : decode cX8_writes 100 = .ok (.aload_n 0, 1) := by decide +kernel
theorem dX8_writes_101 : decode cX8_writes 101 = .ok (.getfield 7, 3) := by decide +kernel
theorem dX8_writes_104 : decode cX8_writes 104 = .ok (.bipush 17, 2) := by decide +kernel
theorem dX8_writes_106 : decode cX8_writes 106 = .ok (.bipush 20, 2) := by decide +kernel
theorem dX8_writes_108 : decode cX8_writes 108 = .ok (.iload_n 1, 1) := by decide +kernel
theorem dX8_writes_109 : decode cX8_writes 109 = .ok (.imul, 1) := by decide +kernel
theorem dX8_writes_110 : decode cX8_writes 110 = .ok (.iadd, 1) := by decide +kernel
theorem dX8_writes_111 : decode cX8_writes 111 = .ok (.iconst 1, 1) := by decide +kernel
theorem dX8_writes_112 : decode cX8_writes 112 = .ok (.iadd, 1) := by decide +kernel
theorem dX8_writes_113 : decode cX8_writes 113 = .ok (.iload 4, 2) := by decide +kernel
theorem dX8_writes_115 : decode cX8_writes 115 = .ok (.iconst 1, 1) := by decide +kernel
theorem dX8_writes_116 : decode cX8_writes 116 = .ok (.iadd, 1) := by decide +kernel
theorem dX8_writes_117 : decode cX8_writes 117 = .ok (.iastore, 1) := by decide +kernel
theorem dX8_writes_118 : decode cX8_writes 118 = .ok (.aload_n 0, 1) := by decide +kernel
theorem dX8_writes_119 : decode cX8_writes 119 = .ok (.getfield 7, 3) := by decide +kernel
theorem dX8_writes_122 : decode cX8_writes 122 = .ok (.iconst 1, 1) := by decide +kernel
theorem dX8_writes_123 : decode cX8_writes 123 = .ok (.dup2, 1) := by decide +kernel
theorem dX8_writes_124 : decode cX8_writes 124 = .ok (.iaload, 1) := by decide +kernel
theorem dX8_writes_125 : decode cX8_writes 125 = .ok (.iconst 1, 1) := by decide +kernel
theorem dX8_writes_126 : decode cX8_writes 126 = .ok (.iadd, 1) := by decide +kernel
theorem dX8_writes_127 : decode cX8_writes 127 = .ok (.iastore, 1) := by decide +kernel
theorem dX8_writes_128 : decode cX8_writes 128 = .ok (.aload_n 0, 1) := by decide +kernel
theorem dX8_writes_129 : decode cX8_writes 129 = .ok (.getfield 7, 3) := by decide +kernel
theorem dX8_writes_132 : decode cX8_writes 132 = .ok (.iconst 1, 1) := by decide +kernel
theorem dX8_writes_133 : decode cX8_writes 133 = .ok (.iaload, 1) := by decide +kernel
theorem dX8_writes_134 : decode cX8_writes 134 = .ok (.iconst 1, 1) := by decide +kernel
theorem dX8_writes_135 : decode cX8_writes 135 = .ok (.isub, 1) := by decide +kernel
theorem dX8_writes_136 : decode cX8_writes 136 = .ok (.ireturn, 1) := by decide +kernel
theorem dX8_commits_0 : decode cX8_commits 0 = .ok (.aload_n 0, 1) := by decide +kernel
theorem dX8_commits_1 : decode cX8_commits 1 = .ok (.iload_n 1, 1) := by decide +kernel
theorem dX8_commits_2 : decode cX8_commits 2 = .ok (.invokevirtual 87, 3) := by decide +kernel
theorem dX8_commits_5 : decode cX8_commits 5 = .ok (.ifCond .ne 6, 3) := by decide +kernel
theorem dX8_commits_8 : decode cX8_commits 8 = .ok (.bipush (-11), 2) := by decide +kernel
theorem dX8_commits_10 : decode cX8_commits 10 = .ok (.ireturn, 1) := by decide +kernel
theorem dX8_commits_11 : decode cX8_commits 11 = .ok (.aload_n 0, 1) := by decide +kernel
theorem dX8_commits_12 : decode cX8_commits 12 = .ok (.iload_n 1, 1) := by decide +kernel
theorem dX8_commits_13 : decode cX8_commits 13 = .ok (.iconst 1, 1) := by decide +kernel
theorem dX8_commits_14 : decode cX8_commits 14 = .ok (.invokevirtual 43, 3) := by decide +kernel
theorem dX8_commits_17 : decode cX8_commits 17 = .ok (.istore_n 2, 1) := by decide +kernel
theorem dX8_commits_18 : decode cX8_commits 18 = .ok (.aload_n 0, 1) := by decide +kernel
theorem dX8_commits_19 : decode cX8_commits 19 = .ok (.invokevirtual 91, 3) := by decide +kernel
theorem dX8_commits_22 : decode cX8_commits 22 = .ok (.iload_n 2, 1) := by decide +kernel
theorem dX8_commits_23 : decode cX8_commits 23 = .ok (.iadd, 1) := by decide +kernel
theorem dX8_commits_24 : decode cX8_commits 24 = .ok (.bipush 60, 2) := by decide +kernel
theorem dX8_commits_26 : decode cX8_commits 26 = .ok (.if_icmp .gt 17, 3) := by decide +kernel
theorem dX8_commits_29 : decode cX8_commits 29 = .ok (.aload_n 0, 1) := by decide +kernel
theorem dX8_commits_30 : decode cX8_commits 30 = .ok (.getfield 7, 3) := by decide +kernel
theorem dX8_commits_33 : decode cX8_commits 33 = .ok (.iconst 2, 1) := by decide +kernel
theorem dX8_commits_34 : decode cX8_commits 34 = .ok (.iaload, 1) := by decide +kernel
theorem dX8_commits_35 : decode cX8_commits 35 = .ok (.iload_n 2, 1) := by decide +kernel
theorem dX8_commits_36 : decode cX8_commits 36 = .ok (.iadd, 1) := by decide +kernel
theorem dX8_commits_37 : decode cX8_commits 37 = .ok (.sipush 200, 3) := by decide +kernel
theorem dX8_commits_40 : decode cX8_commits 40 = .ok (.if_icmp .le 6, 3) := by decide +kernel
theorem dX8_commits_43 : decode cX8_commits 43 = .ok (.bipush (-12), 2) := by decide +kernel
theorem dX8_commits_45 : decode cX8_commits 45 = .ok (.ireturn, 1) := by decide +kernel
theorem dX8_commits_46 : decode cX8_commits 46 = .ok (.iconst 0, 1) := by decide +kernel
theorem dX8_commits_47 : decode cX8_commits 47 = .ok (.istore_n 3, 1) := by decide +kernel
theorem dX8_commits_48 : decode cX8_commits 48 = .ok (.iload_n 3, 1) := by decide +kernel
theorem dX8_commits_49 : decode cX8_commits 49 = .ok (.iload_n 2, 1) := by decide +kernel
theorem dX8_commits_50 : decode cX8_commits 50 = .ok (.if_icmp .ge 101, 3) := by decide +kernel
theorem dX8_commits_53 : decode cX8_commits 53 = .ok (.bipush 17, 2) := by decide +kernel
theorem dX8_commits_55 : decode cX8_commits 55 = .ok (.bipush 20, 2) := by decide +kernel
theorem dX8_commits_57 : decode cX8_commits 57 = .ok (.iload_n 1, 1) := by decide +kernel
theorem dX8_commits_58 : decode cX8_commits 58 = .ok (.imul, 1) := by decide +kernel
theorem dX8_commits_59 : decode cX8_commits 59 = .ok (.iadd, 1) := by decide +kernel
theorem dX8_commits_60 : decode cX8_commits 60 = .ok (.iconst 2, 1) := by decide +kernel
theorem dX8_commits_61 : decode cX8_commits 61 = .ok (.iadd, 1) := by decide +kernel
theorem dX8_commits_62 : decode cX8_commits 62 = .ok (.iconst 3, 1) := by decide +kernel
theorem dX8_commits_63 : decode cX8_commits 63 = .ok (.iload_n 3, 1) := by decide +kernel
theorem dX8_commits_64 : decode cX8_commits 64 = .ok (.imul, 1) := by decide +kernel
theorem dX8_commits_65 : decode cX8_commits 65 = .ok (.iadd, 1) := by decide +kernel
theorem dX8_commits_66 : decode cX8_commits 66 = .ok (.istore 4, 2) := by decide +kernel
theorem dX8_commits_68 : decode cX8_commits 68 = .ok (.bipush 97, 2) := by decide +kernel
theorem dX8_commits_70 : decode cX8_commits 70 = .ok (.iconst 3, 1) := by decide +kernel
theorem dX8_commits_71 : decode cX8_commits 71 = .ok (.aload_n 0, 1) := by decide +kernel
theorem dX8_commits_72 : decode cX8_commits 72 = .ok (.getfield 7, 3) := by decide +kernel
theorem dX8_commits_75 : decode cX8_commits 75 = .ok (.iconst 2, 1) := by decide +kernel
theorem dX8_commits_76 : decode cX8_commits 76 = .ok (.iaload, 1) := by decide +kernel
theorem dX8_commits_77 : decode cX8_commits 77 = .ok (.imul, 1) := by decide +kernel
theorem dX8_commits_78 : decode cX8_commits 78 = .ok (.iadd, 1) := by decide +kernel
theorem dX8_commits_79 : decode cX8_commits 79 = .ok (.istore 5, 2) := by decide +kernel
theorem dX8_commits_81 : decode cX8_commits 81 = .ok (.aload_n 0, 1) := by decide +kernel
theorem dX8_commits_82 : decode cX8_commits 82 = .ok (.getfield 7, 3) := by decide +kernel
theorem dX8_commits_85 : decode cX8_commits 85 = .ok (.iload 5, 2) := by decide +kernel
theorem dX8_commits_87 : decode cX8_commits 87 = .ok (.aload_n 0, 1) := by decide +kernel
theorem dX8_commits_88 : decode cX8_commits 88 = .ok (.getfield 7, 3) := by decide +kernel
theorem dX8_commits_91 : decode cX8_commits 91 = .ok (.iload 4, 2) := by decide +kernel
theorem dX8_commits_93 : decode cX8_commits 93 = .ok (.iaload, 1) := by decide +kernel
theorem dX8_commits_94 : decode cX8_commits 94 = .ok (.iconst 4, 1) := by decide +kernel
theorem dX8_commits_95 : decode cX8_commits 95 = .ok (.aload_n 0, 1) := by decide +kernel
theorem dX8_commits_96 : decode cX8_commits 96 = .ok (.getfield 7, 3) := by decide +kernel
theorem dX8_commits_99 : decode cX8_commits 99 = .ok (.iload 4, 2) := by decide +kernel
theorem dX8_commits_101 : decode cX8_commits 101 = .ok (.iconst 1, 1) := by decide +kernel
theorem dX8_commits_102 : decode cX8_commits 102 = .ok (.iadd, 1) := by decide +kernel
theorem dX8_commits_103 : decode cX8_commits 103 = .ok (.iaload, 1) := by decide +kernel
theorem dX8_commits_104 : decode cX8_commits 104 = .ok (.imul, 1) := by decide +kernel
theorem dX8_commits_105 : decode cX8_commits 105 = .ok (.iadd, 1) := by decide +kernel
theorem dX8_commits_106 : decode cX8_commits 106 = .ok (.iastore, 1) := by decide +kernel
theorem dX8_commits_107 : decode cX8_commits 107 = .ok (.aload_n 0, 1) := by decide +kernel
theorem dX8_commits_108 : decode cX8_commits 108 = .ok (.getfield 7, 3) := by decide +kernel
theorem dX8_commits_111 : decode cX8_commits 111 = .ok (.iload 5, 2) := by decide +kernel
theorem dX8_commits_113 : decode cX8_commits 113 = .ok (.iconst 1, 1) := by decide +kernel
theorem dX8_commits_114 : decode cX8_commits 114 = .ok (.iadd, 1) := by decide +kernel
theorem dX8_commits_115 : decode cX8_commits 115 = .ok (.aload_n 0, 1) := by decide +kernel
theorem dX8_commits_116 : decode cX8_commits 116 = .ok (.getfield 7, 3) := by decide +kernel
theorem dX8_commits_119 : decode cX8_commits 119 = .ok (.iload 4, 2) := by decide +kernel
theorem dX8_commits_121 : decode cX8_commits 121 = .ok (.iconst 2, 1) := by decide +kernel
theorem dX8_commits_122 : decode cX8_commits 122 = .ok (.iadd, 1) := by decide +kernel
theorem dX8_commits_123 : decode cX8_commits 123 = .ok (.iaload, 1) := by decide +kernel
theorem dX8_commits_124 : decode cX8_commits 124 = .ok (.iastore, 1) := by decide +kernel
theorem dX8_commits_125 : decode cX8_commits 125 = .ok (.aload_n 0, 1) := by decide +kernel
theorem dX8_commits_126 : decode cX8_commits 126 = .ok (.getfield 7, 3) := by decide +kernel
theorem dX8_commits_129 : decode cX8_commits 129 = .ok (.iload 5, 2) := by decide +kernel
theorem dX8_commits_131 : decode cX8_commits 131 = .ok (.iconst 2, 1) := by decide +kernel
theorem dX8_commits_132 : decode cX8_commits 132 = .ok (.iadd, 1) := by decide +kernel
theorem dX8_commits_133 : decode cX8_commits 133 = .ok (.iconst 0, 1) := by decide +kernel
theorem dX8_commits_134 : decode cX8_commits 134 = .ok (.iastore, 1) := by decide +kernel
theorem dX8_commits_135 : decode cX8_commits 135 = .ok (.aload_n 0, 1) := by decide +kernel
theorem dX8_commits_136 : decode cX8_commits 136 = .ok (.getfield 7, 3) := by decide +kernel
theorem dX8_commits_139 : decode cX8_commits 139 = .ok (.iconst 2, 1) := by decide +kernel
theorem dX8_commits_140 : decode cX8_commits 140 = .ok (.dup2, 1) := by decide +kernel
theorem dX8_commits_141 : decode cX8_commits 141 = .ok (.iaload, 1) := by decide +kernel
theorem dX8_commits_142 : decode cX8_commits 142 = .ok (.iconst 1, 1) := by decide +kernel
theorem dX8_commits_143 : decode cX8_commits 143 = .ok (.iadd, 1) := by decide +kernel
theorem dX8_commits_144 : decode cX8_commits 144 = .ok (.iastore, 1) := by decide +kernel
theorem dX8_commits_145 : decode cX8_commits 145 = .ok (.iinc 3 1, 3) := by decide +kernel
theorem dX8_commits_148 : decode cX8_commits 148 = .ok (.goto (-100), 3) := by decide +kernel
theorem dX8_commits_151 : decode cX8_commits 151 = .ok (.aload_n 0, 1) := by decide +kernel
theorem dX8_commits_152 : decode cX8_commits 152 = .ok (.getfield 7, 3) := by decide +kernel
theorem dX8_commits_155 : decode cX8_commits 155 = .ok (.bipush 17, 2) := by decide +kernel
theorem dX8_commits_157 : decode cX8_commits 157 = .ok (.bipush 20, 2) := by decide +kernel
theorem dX8_commits_159 : decode cX8_commits 159 = .ok (.iload_n 1, 1) := by decide +kernel
theorem dX8_commits_160 : decode cX8_commits 160 = .ok (.imul, 1) := by decide +kernel
theorem dX8_commits_161 : decode cX8_commits 161 = .ok (.iadd, 1) := by decide +kernel
theorem dX8_commits_162 : decode cX8_commits 162 = .ok (.iconst 0, 1) := by decide +kernel
theorem dX8_commits_163 : decode cX8_commits 163 = .ok (.iadd, 1) := by decide +kernel
theorem dX8_commits_164 : decode cX8_commits 164 = .ok (.iconst 0, 1) := by decide +kernel
theorem dX8_commits_165 : decode cX8_commits 165 = .ok (.iastore, 1) := by decide +kernel
theorem dX8_commits_166 : decode cX8_commits 166 = .ok (.aload_n 0, 1) := by decide +kernel
theorem dX8_commits_167 : decode cX8_commits 167 = .ok (.invokevirtual 91, 3) := by decide +kernel
theorem dX8_commits_170 : decode cX8_commits 170 = .ok (.ireturn, 1) := by decide +kernel
theorem dX8_drops_0 : decode cX8_drops 0 = .ok (.aload_n 0, 1) := by decide +kernel
theorem dX8_drops_1 : decode cX8_drops 1 = .ok (.iload_n 1, 1) := by decide +kernel
theorem dX8_drops_2 : decode cX8_drops 2 = .ok (.invokevirtual 87, 3) := by decide +kernel
theorem dX8_drops_5 : decode cX8_drops 5 = .ok (.ifCond .ne 6, 3) := by decide +kernel
theorem dX8_drops_8 : decode cX8_drops 8 = .ok (.bipush (-11), 2) := by decide +kernel
theorem dX8_drops_10 : decode cX8_drops 10 = .ok (.ireturn, 1) := by decide +kernel
theorem dX8_drops_11 : decode cX8_drops 11 = .ok (.aload_n 0, 1) := by decide +kernel
theorem dX8_drops_12 : decode cX8_drops 12 = .ok (.getfield 7, 3) := by decide +kernel
theorem dX8_drops_15 : decode cX8_drops 15 = .ok (.bipush 17, 2) := by decide +kernel
theorem dX8_drops_17 : decode cX8_drops 17 = .ok (.bipush 20, 2) := by decide +kernel
theorem dX8_drops_19 : decode cX8_drops 19 = .ok (.iload_n 1, 1) := by decide +kernel
theorem dX8_drops_20 : decode cX8_drops 20 = .ok (.imul, 1) := by decide +kernel
theorem dX8_drops_21 : decode cX8_drops 21 = .ok (.iadd, 1) := by decide +kernel
theorem dX8_drops_22 : decode cX8_drops 22 = .ok (.iconst 0, 1) := by decide +kernel
theorem dX8_drops_23 : decode cX8_drops 23 = .ok (.iadd, 1) := by decide +kernel
theorem dX8_drops_24 : decode cX8_drops 24 = .ok (.iconst 0, 1) := by decide +kernel
theorem dX8_drops_25 : decode cX8_drops 25 = .ok (.iastore, 1) := by decide +kernel
theorem dX8_drops_26 : decode cX8_drops 26 = .ok (.aload_n 0, 1) := by decide +kernel
theorem dX8_drops_27 : decode cX8_drops 27 = .ok (.iload_n 1, 1) := by decide +kernel
theorem dX8_drops_28 : decode cX8_drops 28 = .ok (.iconst 1, 1) := by decide +kernel
theorem dX8_drops_29 : decode cX8_drops 29 = .ok (.invokevirtual 43, 3) := by decide +kernel
theorem dX8_drops_32 : decode cX8_drops 32 = .ok (.ireturn, 1) := by decide +kernel
theorem dX8_sweeps_0 : decode cX8_sweeps 0 = .ok (.iconst 0, 1) := by decide +kernel
theorem dX8_sweeps_1 : decode cX8_sweeps 1 = .ok (.istore_n 1, 1) := by decide +kernel
theorem dX8_sweeps_2 : decode cX8_sweeps 2 = .ok (.iconst 0, 1) := by decide +kernel
theorem dX8_sweeps_3 : decode cX8_sweeps 3 = .ok (.istore_n 2, 1) := by decide +kernel
theorem dX8_sweeps_4 : decode cX8_sweeps 4 = .ok (.iload_n 2, 1) := by decide +kernel
theorem dX8_sweeps_5 : decode cX8_sweeps 5 = .ok (.aload_n 0, 1) := by decide +kernel
theorem dX8_sweeps_6 : decode cX8_sweeps 6 = .ok (.getfield 7, 3) := by decide +kernel
theorem dX8_sweeps_9 : decode cX8_sweeps 9 = .ok (.iconst 2, 1) := by decide +kernel
theorem dX8_sweeps_10 : decode cX8_sweeps 10 = .ok (.iaload, 1) := by decide +kernel
theorem dX8_sweeps_11 : decode cX8_sweeps 11 = .ok (.if_icmp .ge 106, 3) := by decide +kernel
theorem dX8_sweeps_14 : decode cX8_sweeps 14 = .ok (.aload_n 0, 1) := by decide +kernel
theorem dX8_sweeps_15 : decode cX8_sweeps 15 = .ok (.iload_n 2, 1) := by decide +kernel
theorem dX8_sweeps_16 : decode cX8_sweeps 16 = .ok (.iconst 0, 1) := by decide +kernel
theorem dX8_sweeps_17 : decode cX8_sweeps 17 = .ok (.invokevirtual 51, 3) := by decide +kernel
theorem dX8_sweeps_20 : decode cX8_sweeps 20 = .ok (.ifCond .ne 91, 3) := by decide +kernel
theorem dX8_sweeps_23 : decode cX8_sweeps 23 = .ok (.aload_n 0, 1) := by decide +kernel
theorem dX8_sweeps_24 : decode cX8_sweeps 24 = .ok (.iload_n 2, 1) := by decide +kernel
theorem dX8_sweeps_25 : decode cX8_sweeps 25 = .ok (.invokevirtual 94, 3) := by decide +kernel
theorem dX8_sweeps_28 : decode cX8_sweeps 28 = .ok (.bipush 7, 2) := by decide +kernel
theorem dX8_sweeps_30 : decode cX8_sweeps 30 = .ok (.if_icmp .ne 81, 3) := by decide +kernel
theorem dX8_sweeps_33 : decode cX8_sweeps 33 = .ok (.aload_n 0, 1) := by decide +kernel
theorem dX8_sweeps_34 : decode cX8_sweeps 34 = .ok (.iload_n 2, 1) := by decide +kernel
theorem dX8_sweeps_35 : decode cX8_sweeps 35 = .ok (.iconst 0, 1) := by decide +kernel
theorem dX8_sweeps_36 : decode cX8_sweeps 36 = .ok (.invokevirtual 97, 3) := by decide +kernel
theorem dX8_sweeps_39 : decode cX8_sweeps 39 = .ok (.iinc 1 1, 3) := by decide +kernel
theorem dX8_sweeps_42 : decode cX8_sweeps 42 = .ok (.iconst 0, 1) := by decide +kernel
theorem dX8_sweeps_43 : decode cX8_sweeps 43 = .ok (.istore_n 3, 1) := by decide +kernel
theorem dX8_sweeps_44 : decode cX8_sweeps 44 = .ok (.iload_n 3, 1) := by decide +kernel
theorem dX8_sweeps_45 : decode cX8_sweeps 45 = .ok (.iconst 3, 1) := by decide +kernel
theorem dX8_sweeps_46 : decode cX8_sweeps 46 = .ok (.if_icmp .ge 65, 3) := by decide +kernel
theorem dX8_sweeps_49 : decode cX8_sweeps 49 = .ok (.aload_n 0, 1) := by decide +kernel
theorem dX8_sweeps_50 : decode cX8_sweeps 50 = .ok (.iload_n 3, 1) := by decide +kernel
theorem dX8_sweeps_51 : decode cX8_sweeps 51 = .ok (.aload_n 0, 1) := by decide +kernel
theorem dX8_sweeps_52 : decode cX8_sweeps 52 = .ok (.iload_n 2, 1) := by decide +kernel
theorem dX8_sweeps_53 : decode cX8_sweeps 53 = .ok (.invokevirtual 61, 3) := by decide +kernel
theorem dX8_sweeps_56 : decode cX8_sweeps 56 = .ok (.invokevirtual 64, 3) := by decide +kernel
theorem dX8_sweeps_59 : decode cX8_sweeps 59 = .ok (.ifCond .eq 18, 3) := by decide +kernel
theorem dX8_sweeps_62 : decode cX8_sweeps 62 = .ok (.aload_n 0, 1) := by decide +kernel
theorem dX8_sweeps_63 : decode cX8_sweeps 63 = .ok (.iload_n 2, 1) := by decide +kernel
theorem dX8_sweeps_64 : decode cX8_sweeps 64 = .ok (.iconst 1, 1) := by decide +kernel
theorem dX8_sweeps_65 : decode cX8_sweeps 65 = .ok (.iload_n 3, 1) := by decide +kernel
theorem dX8_sweeps_66 : decode cX8_sweeps 66 = .ok (.iadd, 1) := by decide +kernel
theorem dX8_sweeps_67 : decode cX8_sweeps 67 = .ok (.invokevirtual 51, 3) := by decide +kernel
theorem dX8_sweeps_70 : decode cX8_sweeps 70 = .ok (.ifCond .ne 7, 3) := by decide +kernel
theorem dX8_sweeps_73 : decode cX8_sweeps 73 = .ok (.iconst 1, 1) := by decide +kernel
theorem dX8_sweeps_74 : decode cX8_sweeps 74 = .ok (.goto 4, 3) := by decide +kernel
theorem dX8_sweeps_77 : decode cX8_sweeps 77 = .ok (.iconst 0, 1) := by decide +kernel
theorem dX8_sweeps_78 : decode cX8_sweeps 78 = .ok (.istore 4, 2) := by decide +kernel
theorem dX8_sweeps_80 : decode cX8_sweeps 80 = .ok (.aload_n 0, 1) := by decide +kernel
theorem dX8_sweeps_81 : decode cX8_sweeps 81 = .ok (.iload_n 3, 1) := by decide +kernel
theorem dX8_sweeps_82 : decode cX8_sweeps 82 = .ok (.bipush 12, 2) := by decide +kernel
theorem dX8_sweeps_84 : decode cX8_sweeps 84 = .ok (.aload_n 0, 1) := by decide +kernel
theorem dX8_sweeps_85 : decode cX8_sweeps 85 = .ok (.iload_n 3, 1) := by decide +kernel
theorem dX8_sweeps_86 : decode cX8_sweeps 86 = .ok (.bipush 12, 2) := by decide +kernel
theorem dX8_sweeps_88 : decode cX8_sweeps 88 = .ok (.invokevirtual 58, 3) := by decide +kernel
theorem dX8_sweeps_91 : decode cX8_sweeps 91 = .ok (.iload 4, 2) := by decide +kernel
theorem dX8_sweeps_93 : decode cX8_sweeps 93 = .ok (.ifCond .eq 7, 3) := by decide +kernel
theorem dX8_sweeps_96 : decode cX8_sweeps 96 = .ok (.iconst 1, 1) := by decide +kernel
theorem dX8_sweeps_97 : decode cX8_sweeps 97 = .ok (.goto 4, 3) := by decide +kernel
theorem dX8_sweeps_100 : decode cX8_sweeps 100 = .ok (.iconst 0, 1) := by decide +kernel
theorem dX8_sweeps_101 : decode cX8_sweeps 101 = .ok (.iadd, 1) := by decide +kernel
theorem dX8_sweeps_102 : decode cX8_sweeps 102 = .ok (.invokevirtual 31, 3) := by decide +kernel
theorem dX8_sweeps_105 : decode cX8_sweeps 105 = .ok (.iinc 3 1, 3) := by decide +kernel
theorem dX8_sweeps_108 : decode cX8_sweeps 108 = .ok (.goto (-64), 3) := by decide +kernel
theorem dX8_sweeps_111 : decode cX8_sweeps 111 = .ok (.iinc 2 1, 3) := by decide +kernel
theorem dX8_sweeps_114 : decode cX8_sweeps 114 = .ok (.goto (-110), 3) := by decide +kernel
theorem dX8_sweeps_117 : decode cX8_sweeps 117 = .ok (.aload_n 0, 1) := by decide +kernel
theorem dX8_sweeps_118 : decode cX8_sweeps 118 = .ok (.getfield 7, 3) := by decide +kernel
theorem dX8_sweeps_121 : decode cX8_sweeps 121 = .ok (.iconst 3, 1) := by decide +kernel
theorem dX8_sweeps_122 : decode cX8_sweeps 122 = .ok (.dup2, 1) := by decide +kernel
theorem dX8_sweeps_123 : decode cX8_sweeps 123 = .ok (.iaload, 1) := by decide +kernel
theorem dX8_sweeps_124 : decode cX8_sweeps 124 = .ok (.iload_n 1, 1) := by decide +kernel
theorem dX8_sweeps_125 : decode cX8_sweeps 125 = .ok (.iadd, 1) := by decide +kernel
theorem dX8_sweeps_126 : decode cX8_sweeps 126 = .ok (.iastore, 1) := by decide +kernel
theorem dX8_sweeps_127 : decode cX8_sweeps 127 = .ok (.iload_n 1, 1) := by decide +kernel
theorem dX8_sweeps_128 : decode cX8_sweeps 128 = .ok (.ireturn, 1) := by decide +kernel
theorem dX8_way_0 : decode cX8_way 0 = .ok (.aload_n 0, 1) := by decide +kernel
theorem dX8_way_1 : decode cX8_way 1 = .ok (.getfield 7, 3) := by decide +kernel
theorem dX8_way_4 : decode cX8_way 4 = .ok (.sipush 811, 3) := by decide +kernel
theorem dX8_way_7 : decode cX8_way 7 = .ok (.bipush 7, 2) := by decide +kernel
theorem dX8_way_9 : decode cX8_way 9 = .ok (.iload_n 1, 1) := by decide +kernel
theorem dX8_way_10 : decode cX8_way 10 = .ok (.imul, 1) := by decide +kernel
theorem dX8_way_11 : decode cX8_way 11 = .ok (.iadd, 1) := by decide +kernel
theorem dX8_way_12 : decode cX8_way 12 = .ok (.iload_n 2, 1) := by decide +kernel
theorem dX8_way_13 : decode cX8_way 13 = .ok (.iadd, 1) := by decide +kernel
theorem dX8_way_14 : decode cX8_way 14 = .ok (.iaload, 1) := by decide +kernel
theorem dX8_way_15 : decode cX8_way 15 = .ok (.ireturn, 1) := by decide +kernel
theorem dX8_rowOf_0 : decode cX8_rowOf 0 = .ok (.aload_n 0, 1) := by decide +kernel
theorem dX8_rowOf_1 : decode cX8_rowOf 1 = .ok (.iload_n 1, 1) := by decide +kernel
theorem dX8_rowOf_2 : decode cX8_rowOf 2 = .ok (.iconst 5, 1) := by decide +kernel
theorem dX8_rowOf_3 : decode cX8_rowOf 3 = .ok (.iload_n 2, 1) := by decide +kernel
theorem dX8_rowOf_4 : decode cX8_rowOf 4 = .ok (.iconst 4, 1) := by decide +kernel
theorem dX8_rowOf_5 : decode cX8_rowOf 5 = .ok (.idiv, 1) := by decide +kernel
theorem dX8_rowOf_6 : decode cX8_rowOf 6 = .ok (.iadd, 1) := by decide +kernel
theorem dX8_rowOf_7 : decode cX8_rowOf 7 = .ok (.invokevirtual 101, 3) := by decide +kernel
theorem dX8_rowOf_10 : decode cX8_rowOf 10 = .ok (.bipush 8, 2) := by decide +kernel
theorem dX8_rowOf_12 : decode cX8_rowOf 12 = .ok (.iload_n 2, 1) := by decide +kernel
theorem dX8_rowOf_13 : decode cX8_rowOf 13 = .ok (.iconst 4, 1) := by decide +kernel
theorem dX8_rowOf_14 : decode cX8_rowOf 14 = .ok (.irem, 1) := by decide +kernel
theorem dX8_rowOf_15 : decode cX8_rowOf 15 = .ok (.imul, 1) := by decide +kernel
theorem dX8_rowOf_16 : decode cX8_rowOf 16 = .ok (.ishr, 1) := by decide +kernel
theorem dX8_rowOf_17 : decode cX8_rowOf 17 = .ok (.sipush 255, 3) := by decide +kernel
theorem dX8_rowOf_20 : decode cX8_rowOf 20 = .ok (.iand, 1) := by decide +kernel
theorem dX8_rowOf_21 : decode cX8_rowOf 21 = .ok (.ireturn, 1) := by decide +kernel
theorem dX8_takeOff_0 : decode cX8_takeOff 0 = .ok (.aload_n 0, 1) := by decide +kernel
theorem dX8_takeOff_1 : decode cX8_takeOff 1 = .ok (.getfield 7, 3) := by decide +kernel
theorem dX8_takeOff_4 : decode cX8_takeOff 4 = .ok (.bipush 9, 2) := by decide +kernel
theorem dX8_takeOff_6 : decode cX8_takeOff 6 = .ok (.dup2, 1) := by decide +kernel
theorem dX8_takeOff_7 : decode cX8_takeOff 7 = .ok (.iaload, 1) := by decide +kernel
theorem dX8_takeOff_8 : decode cX8_takeOff 8 = .ok (.iconst 1, 1) := by decide +kernel
theorem dX8_takeOff_9 : decode cX8_takeOff 9 = .ok (.isub, 1) := by decide +kernel
theorem dX8_takeOff_10 : decode cX8_takeOff 10 = .ok (.iastore, 1) := by decide +kernel
theorem dX8_takeOff_11 : decode cX8_takeOff 11 = .ok (.sipush 811, 3) := by decide +kernel
theorem dX8_takeOff_14 : decode cX8_takeOff 14 = .ok (.bipush 7, 2) := by decide +kernel
theorem dX8_takeOff_16 : decode cX8_takeOff 16 = .ok (.iload_n 1, 1) := by decide +kernel
theorem dX8_takeOff_17 : decode cX8_takeOff 17 = .ok (.imul, 1) := by decide +kernel
theorem dX8_takeOff_18 : decode cX8_takeOff 18 = .ok (.iadd, 1) := by decide +kernel
theorem dX8_takeOff_19 : decode cX8_takeOff 19 = .ok (.istore_n 2, 1) := by decide +kernel
theorem dX8_takeOff_20 : decode cX8_takeOff 20 = .ok (.iload_n 2, 1) := by decide +kernel
theorem dX8_takeOff_21 : decode cX8_takeOff 21 = .ok (.sipush 811, 3) := by decide +kernel
theorem dX8_takeOff_24 : decode cX8_takeOff 24 = .ok (.bipush 7, 2) := by decide +kernel
theorem dX8_takeOff_26 : decode cX8_takeOff 26 = .ok (.aload_n 0, 1) := by decide +kernel
theorem dX8_takeOff_27 : decode cX8_takeOff 27 = .ok (.getfield 7, 3) := by decide +kernel
theorem dX8_takeOff_30 : decode cX8_takeOff 30 = .ok (.bipush 9, 2) := by decide +kernel
theorem dX8_takeOff_32 : decode cX8_takeOff 32 = .ok (.iaload, 1) := by decide +kernel
theorem dX8_takeOff_33 : decode cX8_takeOff 33 = .ok (.imul, 1) := by decide +kernel
theorem dX8_takeOff_34 : decode cX8_takeOff 34 = .ok (.iadd, 1) := by decide +kernel
theorem dX8_takeOff_35 : decode cX8_takeOff 35 = .ok (.if_icmp .ge 24, 3) := by decide +kernel
theorem dX8_takeOff_38 : decode cX8_takeOff 38 = .ok (.aload_n 0, 1) := by decide +kernel
theorem dX8_takeOff_39 : decode cX8_takeOff 39 = .ok (.getfield 7, 3) := by decide +kernel
theorem dX8_takeOff_42 : decode cX8_takeOff 42 = .ok (.iload_n 2, 1) := by decide +kernel
theorem dX8_takeOff_43 : decode cX8_takeOff 43 = .ok (.aload_n 0, 1) := by decide +kernel
theorem dX8_takeOff_44 : decode cX8_takeOff 44 = .ok (.getfield 7, 3) := by decide +kernel
theorem dX8_takeOff_47 : decode cX8_takeOff 47 = .ok (.iload_n 2, 1) := by decide +kernel
theorem dX8_takeOff_48 : decode cX8_takeOff 48 = .ok (.bipush 7, 2) := by decide +kernel
theorem dX8_takeOff_50 : decode cX8_takeOff 50 = .ok (.iadd, 1) := by decide +kernel
theorem dX8_takeOff_51 : decode cX8_takeOff 51 = .ok (.iaload, 1) := by decide +kernel
theorem dX8_takeOff_52 : decode cX8_takeOff 52 = .ok (.iastore, 1) := by decide +kernel
theorem dX8_takeOff_53 : decode cX8_takeOff 53 = .ok (.iinc 2 1, 3) := by decide +kernel
theorem dX8_takeOff_56 : decode cX8_takeOff 56 = .ok (.goto (-36), 3) := by decide +kernel
theorem dX8_takeOff_59 : decode cX8_takeOff 59 = .ok (.iconst 0, 1) := by decide +kernel
theorem dX8_takeOff_60 : decode cX8_takeOff 60 = .ok (.istore_n 2, 1) := by decide +kernel
theorem dX8_takeOff_61 : decode cX8_takeOff 61 = .ok (.iload_n 2, 1) := by decide +kernel
theorem dX8_takeOff_62 : decode cX8_takeOff 62 = .ok (.bipush 7, 2) := by decide +kernel
theorem dX8_takeOff_64 : decode cX8_takeOff 64 = .ok (.if_icmp .ge 31, 3) := by decide +kernel
theorem dX8_takeOff_67 : decode cX8_takeOff 67 = .ok (.aload_n 0, 1) := by decide +kernel
theorem dX8_takeOff_68 : decode cX8_takeOff 68 = .ok (.getfield 7, 3) := by decide +kernel
theorem dX8_takeOff_71 : decode cX8_takeOff 71 = .ok (.sipush 811, 3) := by decide +kernel
theorem dX8_takeOff_74 : decode cX8_takeOff 74 = .ok (.bipush 7, 2) := by decide +kernel
theorem dX8_takeOff_76 : decode cX8_takeOff 76 = .ok (.aload_n 0, 1) := by decide +kernel
theorem dX8_takeOff_77 : decode cX8_takeOff 77 = .ok (.getfield 7, 3) := by decide +kernel
theorem dX8_takeOff_80 : decode cX8_takeOff 80 = .ok (.bipush 9, 2) := by decide +kernel
theorem dX8_takeOff_82 : decode cX8_takeOff 82 = .ok (.iaload, 1) := by decide +kernel
theorem dX8_takeOff_83 : decode cX8_takeOff 83 = .ok (.imul, 1) := by decide +kernel
theorem dX8_takeOff_84 : decode cX8_takeOff 84 = .ok (.iadd, 1) := by decide +kernel
theorem dX8_takeOff_85 : decode cX8_takeOff 85 = .ok (.iload_n 2, 1) := by decide +kernel
theorem dX8_takeOff_86 : decode cX8_takeOff 86 = .ok (.iadd, 1) := by decide +kernel
theorem dX8_takeOff_87 : decode cX8_takeOff 87 = .ok (.iconst 0, 1) := by decide +kernel
theorem dX8_takeOff_88 : decode cX8_takeOff 88 = .ok (.iastore, 1) := by decide +kernel
theorem dX8_takeOff_89 : decode cX8_takeOff 89 = .ok (.iinc 2 1, 3) := by decide +kernel
theorem dX8_takeOff_92 : decode cX8_takeOff 92 = .ok (.goto (-31), 3) := by decide +kernel
theorem dX8_takeOff_95 : decode cX8_takeOff 95 = .ok (.return_, 1) := by decide +kernel
theorem dX8_sends_0 : decode cX8_sends 0 = .ok (.aload_n 0, 1) := by decide +kernel
theorem dX8_sends_1 : decode cX8_sends 1 = .ok (.getfield 7, 3) := by decide +kernel
theorem dX8_sends_4 : decode cX8_sends 4 = .ok (.iconst 4, 1) := by decide +kernel
theorem dX8_sends_5 : decode cX8_sends 5 = .ok (.dup2, 1) := by decide +kernel
theorem dX8_sends_6 : decode cX8_sends 6 = .ok (.iaload, 1) := by decide +kernel
theorem dX8_sends_7 : decode cX8_sends 7 = .ok (.iconst 1, 1) := by decide +kernel
theorem dX8_sends_8 : decode cX8_sends 8 = .ok (.iadd, 1) := by decide +kernel
theorem dX8_sends_9 : decode cX8_sends 9 = .ok (.iastore, 1) := by decide +kernel
theorem dX8_sends_10 : decode cX8_sends 10 = .ok (.aload_n 0, 1) := by decide +kernel
theorem dX8_sends_11 : decode cX8_sends 11 = .ok (.getfield 7, 3) := by decide +kernel
theorem dX8_sends_14 : decode cX8_sends 14 = .ok (.bipush 14, 2) := by decide +kernel
theorem dX8_sends_16 : decode cX8_sends 16 = .ok (.iaload, 1) := by decide +kernel
theorem dX8_sends_17 : decode cX8_sends 17 = .ok (.ifCond .eq 31, 3) := by decide +kernel
theorem dX8_sends_20 : decode cX8_sends 20 = .ok (.aload_n 0, 1) := by decide +kernel
theorem dX8_sends_21 : decode cX8_sends 21 = .ok (.getfield 7, 3) := by decide +kernel
theorem dX8_sends_24 : decode cX8_sends 24 = .ok (.iconst 4, 1) := by decide +kernel
theorem dX8_sends_25 : decode cX8_sends 25 = .ok (.iaload, 1) := by decide +kernel
theorem dX8_sends_26 : decode cX8_sends 26 = .ok (.aload_n 0, 1) := by decide +kernel
theorem dX8_sends_27 : decode cX8_sends 27 = .ok (.getfield 7, 3) := by decide +kernel
theorem dX8_sends_30 : decode cX8_sends 30 = .ok (.bipush 14, 2) := by decide +kernel
theorem dX8_sends_32 : decode cX8_sends 32 = .ok (.iaload, 1) := by decide +kernel
theorem dX8_sends_33 : decode cX8_sends 33 = .ok (.irem, 1) := by decide +kernel
theorem dX8_sends_34 : decode cX8_sends 34 = .ok (.ifCond .ne 14, 3) := by decide +kernel
theorem dX8_sends_37 : decode cX8_sends 37 = .ok (.aload_n 0, 1) := by decide +kernel
theorem dX8_sends_38 : decode cX8_sends 38 = .ok (.getfield 7, 3) := by decide +kernel
theorem dX8_sends_41 : decode cX8_sends 41 = .ok (.iconst 5, 1) := by decide +kernel
theorem dX8_sends_42 : decode cX8_sends 42 = .ok (.dup2, 1) := by decide +kernel
theorem dX8_sends_43 : decode cX8_sends 43 = .ok (.iaload, 1) := by decide +kernel
theorem dX8_sends_44 : decode cX8_sends 44 = .ok (.iconst 1, 1) := by decide +kernel
theorem dX8_sends_45 : decode cX8_sends 45 = .ok (.iadd, 1) := by decide +kernel
theorem dX8_sends_46 : decode cX8_sends 46 = .ok (.iastore, 1) := by decide +kernel
theorem dX8_sends_47 : decode cX8_sends 47 = .ok (.return_, 1) := by decide +kernel
theorem dX8_sends_48 : decode cX8_sends 48 = .ok (.sipush 811, 3) := by decide +kernel
theorem dX8_sends_51 : decode cX8_sends 51 = .ok (.bipush 7, 2) := by decide +kernel
theorem dX8_sends_53 : decode cX8_sends 53 = .ok (.aload_n 0, 1) := by decide +kernel
theorem dX8_sends_54 : decode cX8_sends 54 = .ok (.getfield 7, 3) := by decide +kernel
theorem dX8_sends_57 : decode cX8_sends 57 = .ok (.bipush 9, 2) := by decide +kernel
theorem dX8_sends_59 : decode cX8_sends 59 = .ok (.iaload, 1) := by decide +kernel
theorem dX8_sends_60 : decode cX8_sends 60 = .ok (.imul, 1) := by decide +kernel
theorem dX8_sends_61 : decode cX8_sends 61 = .ok (.iadd, 1) := by decide +kernel
theorem dX8_sends_62 : decode cX8_sends 62 = .ok (.istore 5, 2) := by decide +kernel
theorem dX8_sends_64 : decode cX8_sends 64 = .ok (.aload_n 0, 1) := by decide +kernel
theorem dX8_sends_65 : decode cX8_sends 65 = .ok (.getfield 7, 3) := by decide +kernel
theorem dX8_sends_68 : decode cX8_sends 68 = .ok (.iload 5, 2) := by decide +kernel
theorem dX8_sends_70 : decode cX8_sends 70 = .ok (.iconst 0, 1) := by decide +kernel
theorem dX8_sends_71 : decode cX8_sends 71 = .ok (.iadd, 1) := by decide +kernel
theorem dX8_sends_72 : decode cX8_sends 72 = .ok (.iload_n 1, 1) := by decide +kernel
theorem dX8_sends_73 : decode cX8_sends 73 = .ok (.iastore, 1) := by decide +kernel
theorem dX8_sends_74 : decode cX8_sends 74 = .ok (.aload_n 0, 1) := by decide +kernel
theorem dX8_sends_75 : decode cX8_sends 75 = .ok (.getfield 7, 3) := by decide +kernel
theorem dX8_sends_78 : decode cX8_sends 78 = .ok (.iload 5, 2) := by decide +kernel
theorem dX8_sends_80 : decode cX8_sends 80 = .ok (.iconst 1, 1) := by decide +kernel
theorem dX8_sends_81 : decode cX8_sends 81 = .ok (.iadd, 1) := by decide +kernel
theorem dX8_sends_82 : decode cX8_sends 82 = .ok (.iload_n 2, 1) := by decide +kernel
theorem dX8_sends_83 : decode cX8_sends 83 = .ok (.iastore, 1) := by decide +kernel
theorem dX8_sends_84 : decode cX8_sends 84 = .ok (.aload_n 0, 1) := by decide +kernel
theorem dX8_sends_85 : decode cX8_sends 85 = .ok (.getfield 7, 3) := by decide +kernel
theorem dX8_sends_88 : decode cX8_sends 88 = .ok (.iload 5, 2) := by decide +kernel
theorem dX8_sends_90 : decode cX8_sends 90 = .ok (.iconst 2, 1) := by decide +kernel
theorem dX8_sends_91 : decode cX8_sends 91 = .ok (.iadd, 1) := by decide +kernel
theorem dX8_sends_92 : decode cX8_sends 92 = .ok (.aload_n 0, 1) := by decide +kernel
theorem dX8_sends_93 : decode cX8_sends 93 = .ok (.getfield 7, 3) := by decide +kernel
theorem dX8_sends_96 : decode cX8_sends 96 = .ok (.iconst 0, 1) := by decide +kernel
theorem dX8_sends_97 : decode cX8_sends 97 = .ok (.iaload, 1) := by decide +kernel
theorem dX8_sends_98 : decode cX8_sends 98 = .ok (.aload_n 0, 1) := by decide +kernel
theorem dX8_sends_99 : decode cX8_sends 99 = .ok (.getfield 7, 3) := by decide +kernel
theorem dX8_sends_102 : decode cX8_sends 102 = .ok (.bipush 11, 2) := by decide +kernel
theorem dX8_sends_104 : decode cX8_sends 104 = .ok (.iaload, 1) := by decide +kernel
theorem dX8_sends_105 : decode cX8_sends 105 = .ok (.iadd, 1) := by decide +kernel
theorem dX8_sends_106 : decode cX8_sends 106 = .ok (.iastore, 1) := by decide +kernel
theorem dX8_sends_107 : decode cX8_sends 107 = .ok (.aload_n 0, 1) := by decide +kernel
theorem dX8_sends_108 : decode cX8_sends 108 = .ok (.getfield 7, 3) := by decide +kernel
theorem dX8_sends_111 : decode cX8_sends 111 = .ok (.iload 5, 2) := by decide +kernel
theorem dX8_sends_113 : decode cX8_sends 113 = .ok (.iconst 3, 1) := by decide +kernel
theorem dX8_sends_114 : decode cX8_sends 114 = .ok (.iadd, 1) := by decide +kernel
theorem dX8_sends_115 : decode cX8_sends 115 = .ok (.iload_n 3, 1) := by decide +kernel
theorem dX8_sends_116 : decode cX8_sends 116 = .ok (.iastore, 1) := by decide +kernel
theorem dX8_sends_117 : decode cX8_sends 117 = .ok (.aload_n 0, 1) := by decide +kernel
theorem dX8_sends_118 : decode cX8_sends 118 = .ok (.getfield 7, 3) := by decide +kernel
theorem dX8_sends_121 : decode cX8_sends 121 = .ok (.iload 5, 2) := by decide +kernel
theorem dX8_sends_123 : decode cX8_sends 123 = .ok (.iconst 4, 1) := by decide +kernel
theorem dX8_sends_124 : decode cX8_sends 124 = .ok (.iadd, 1) := by decide +kernel
theorem dX8_sends_125 : decode cX8_sends 125 = .ok (.iload 4, 2) := by decide +kernel
theorem dX8_sends_127 : decode cX8_sends 127 = .ok (.iastore, 1) := by decide +kernel
theorem dX8_sends_128 : decode cX8_sends 128 = .ok (.aload_n 0, 1) := by decide +kernel
theorem dX8_sends_129 : decode cX8_sends 129 = .ok (.getfield 7, 3) := by decide +kernel
theorem dX8_sends_132 : decode cX8_sends 132 = .ok (.iload 5, 2) := by decide +kernel
theorem dX8_sends_134 : decode cX8_sends 134 = .ok (.iconst 5, 1) := by decide +kernel
theorem dX8_sends_135 : decode cX8_sends 135 = .ok (.iadd, 1) := by decide +kernel
theorem dX8_sends_136 : decode cX8_sends 136 = .ok (.iconst 0, 1) := by decide +kernel
theorem dX8_sends_137 : decode cX8_sends 137 = .ok (.iastore, 1) := by decide +kernel
theorem dX8_sends_138 : decode cX8_sends 138 = .ok (.aload_n 0, 1) := by decide +kernel
theorem dX8_sends_139 : decode cX8_sends 139 = .ok (.getfield 7, 3) := by decide +kernel
theorem dX8_sends_142 : decode cX8_sends 142 = .ok (.iload 5, 2) := by decide +kernel
theorem dX8_sends_144 : decode cX8_sends 144 = .ok (.iconst 5, 1) := by decide +kernel
theorem dX8_sends_145 : decode cX8_sends 145 = .ok (.iadd, 1) := by decide +kernel
theorem dX8_sends_146 : decode cX8_sends 146 = .ok (.iconst 1, 1) := by decide +kernel
theorem dX8_sends_147 : decode cX8_sends 147 = .ok (.iadd, 1) := by decide +kernel
theorem dX8_sends_148 : decode cX8_sends 148 = .ok (.iconst 0, 1) := by decide +kernel
theorem dX8_sends_149 : decode cX8_sends 149 = .ok (.iastore, 1) := by decide +kernel
theorem dX8_sends_150 : decode cX8_sends 150 = .ok (.iconst 0, 1) := by decide +kernel
theorem dX8_sends_151 : decode cX8_sends 151 = .ok (.istore 6, 2) := by decide +kernel
theorem dX8_sends_153 : decode cX8_sends 153 = .ok (.iload 6, 2) := by decide +kernel
theorem dX8_sends_155 : decode cX8_sends 155 = .ok (.iload_n 3, 1) := by decide +kernel
theorem dX8_sends_156 : decode cX8_sends 156 = .ok (.if_icmp .ge 41, 3) := by decide +kernel
theorem dX8_sends_159 : decode cX8_sends 159 = .ok (.aload_n 0, 1) := by decide +kernel
theorem dX8_sends_160 : decode cX8_sends 160 = .ok (.getfield 7, 3) := by decide +kernel
theorem dX8_sends_163 : decode cX8_sends 163 = .ok (.iload 5, 2) := by decide +kernel
theorem dX8_sends_165 : decode cX8_sends 165 = .ok (.iconst 5, 1) := by decide +kernel
theorem dX8_sends_166 : decode cX8_sends 166 = .ok (.iadd, 1) := by decide +kernel
theorem dX8_sends_167 : decode cX8_sends 167 = .ok (.iload 6, 2) := by decide +kernel
theorem dX8_sends_169 : decode cX8_sends 169 = .ok (.iconst 4, 1) := by decide +kernel
theorem dX8_sends_170 : decode cX8_sends 170 = .ok (.idiv, 1) := by decide +kernel
theorem dX8_sends_171 : decode cX8_sends 171 = .ok (.iadd, 1) := by decide +kernel
theorem dX8_sends_172 : decode cX8_sends 172 = .ok (.dup2, 1) := by decide +kernel
theorem dX8_sends_173 : decode cX8_sends 173 = .ok (.iaload, 1) := by decide +kernel
theorem dX8_sends_174 : decode cX8_sends 174 = .ok (.aload_n 0, 1) := by decide +kernel
theorem dX8_sends_175 : decode cX8_sends 175 = .ok (.getfield 28, 3) := by decide +kernel
theorem dX8_sends_178 : decode cX8_sends 178 = .ok (.iload 6, 2) := by decide +kernel
theorem dX8_sends_180 : decode cX8_sends 180 = .ok (.iaload, 1) := by decide +kernel
theorem dX8_sends_181 : decode cX8_sends 181 = .ok (.bipush 8, 2) := by decide +kernel
theorem dX8_sends_183 : decode cX8_sends 183 = .ok (.iload 6, 2) := by decide +kernel
theorem dX8_sends_185 : decode cX8_sends 185 = .ok (.iconst 4, 1) := by decide +kernel
theorem dX8_sends_186 : decode cX8_sends 186 = .ok (.irem, 1) := by decide +kernel
theorem dX8_sends_187 : decode cX8_sends 187 = .ok (.imul, 1) := by decide +kernel
theorem dX8_sends_188 : decode cX8_sends 188 = .ok (.ishl, 1) := by decide +kernel
theorem dX8_sends_189 : decode cX8_sends 189 = .ok (.ior, 1) := by decide +kernel
theorem dX8_sends_190 : decode cX8_sends 190 = .ok (.iastore, 1) := by decide +kernel
theorem dX8_sends_191 : decode cX8_sends 191 = .ok (.iinc 6 1, 3) := by decide +kernel
theorem dX8_sends_194 : decode cX8_sends 194 = .ok (.goto (-41), 3) := by decide +kernel
theorem dX8_sends_197 : decode cX8_sends 197 = .ok (.aload_n 0, 1) := by decide +kernel
theorem dX8_sends_198 : decode cX8_sends 198 = .ok (.getfield 7, 3) := by decide +kernel
theorem dX8_sends_201 : decode cX8_sends 201 = .ok (.bipush 9, 2) := by decide +kernel
theorem dX8_sends_203 : decode cX8_sends 203 = .ok (.dup2, 1) := by decide +kernel
theorem dX8_sends_204 : decode cX8_sends 204 = .ok (.iaload, 1) := by decide +kernel
theorem dX8_sends_205 : decode cX8_sends 205 = .ok (.iconst 1, 1) := by decide +kernel
theorem dX8_sends_206 : decode cX8_sends 206 = .ok (.iadd, 1) := by decide +kernel
theorem dX8_sends_207 : decode cX8_sends 207 = .ok (.iastore, 1) := by decide +kernel
theorem dX8_sends_208 : decode cX8_sends 208 = .ok (.return_, 1) := by decide +kernel
theorem dX8_remembers_0 : decode cX8_remembers 0 = .ok (.iconst 0, 1) := by decide +kernel
theorem dX8_remembers_1 : decode cX8_remembers 1 = .ok (.istore_n 3, 1) := by decide +kernel
theorem dX8_remembers_2 : decode cX8_remembers 2 = .ok (.iconst 0, 1) := by decide +kernel
theorem dX8_remembers_3 : decode cX8_remembers 3 = .ok (.istore 4, 2) := by decide +kernel
theorem dX8_remembers_5 : decode cX8_remembers 5 = .ok (.iload 4, 2) := by decide +kernel
theorem dX8_remembers_7 : decode cX8_remembers 7 = .ok (.aload_n 0, 1) := by decide +kernel
theorem dX8_remembers_8 : decode cX8_remembers 8 = .ok (.iload_n 1, 1) := by decide +kernel
theorem dX8_remembers_9 : decode cX8_remembers 9 = .ok (.iconst 2, 1) := by decide +kernel
theorem dX8_remembers_10 : decode cX8_remembers 10 = .ok (.invokevirtual 58, 3) := by decide +kernel
theorem dX8_remembers_13 : decode cX8_remembers 13 = .ok (.if_icmp .ge 33, 3) := by decide +kernel
theorem dX8_remembers_16 : decode cX8_remembers 16 = .ok (.iload_n 3, 1) := by decide +kernel
theorem dX8_remembers_17 : decode cX8_remembers 17 = .ok (.ifCond .ne 17, 3) := by decide +kernel
theorem dX8_remembers_20 : decode cX8_remembers 20 = .ok (.aload_n 0, 1) := by decide +kernel
theorem dX8_remembers_21 : decode cX8_remembers 21 = .ok (.iload_n 1, 1) := by decide +kernel
theorem dX8_remembers_22 : decode cX8_remembers 22 = .ok (.bipush 13, 2) := by decide +kernel
theorem dX8_remembers_24 : decode cX8_remembers 24 = .ok (.iload 4, 2) := by decide +kernel
theorem dX8_remembers_26 : decode cX8_remembers 26 = .ok (.iadd, 1) := by decide +kernel
theorem dX8_remembers_27 : decode cX8_remembers 27 = .ok (.invokevirtual 58, 3) := by decide +kernel
theorem dX8_remembers_30 : decode cX8_remembers 30 = .ok (.iload_n 2, 1) := by decide +kernel
theorem dX8_remembers_31 : decode cX8_remembers 31 = .ok (.if_icmp .ne 7, 3) := by decide +kernel
theorem dX8_remembers_34 : decode cX8_remembers 34 = .ok (.iconst 1, 1) := by decide +kernel
theorem dX8_remembers_35 : decode cX8_remembers 35 = .ok (.goto 4, 3) := by decide +kernel
theorem dX8_remembers_38 : decode cX8_remembers 38 = .ok (.iconst 0, 1) := by decide +kernel
theorem dX8_remembers_39 : decode cX8_remembers 39 = .ok (.istore_n 3, 1) := by decide +kernel
theorem dX8_remembers_40 : decode cX8_remembers 40 = .ok (.iinc 4 1, 3) := by decide +kernel
theorem dX8_remembers_43 : decode cX8_remembers 43 = .ok (.goto (-38), 3) := by decide +kernel
theorem dX8_remembers_46 : decode cX8_remembers 46 = .ok (.iload_n 3, 1) := by decide +kernel
theorem dX8_remembers_47 : decode cX8_remembers 47 = .ok (.ireturn, 1) := by decide +kernel
theorem dX8_works_0 : decode cX8_works 0 = .ok (.aload_n 0, 1) := by decide +kernel
theorem dX8_works_1 : decode cX8_works 1 = .ok (.iload_n 2, 1) := by decide +kernel
theorem dX8_works_2 : decode cX8_works 2 = .ok (.invokevirtual 55, 3) := by decide +kernel
theorem dX8_works_5 : decode cX8_works 5 = .ok (.istore_n 3, 1) := by decide +kernel
theorem dX8_works_6 : decode cX8_works 6 = .ok (.aload_n 0, 1) := by decide +kernel
theorem dX8_works_7 : decode cX8_works 7 = .ok (.iload_n 1, 1) := by decide +kernel
theorem dX8_works_8 : decode cX8_works 8 = .ok (.iconst 2, 1) := by decide +kernel
theorem dX8_works_9 : decode cX8_works 9 = .ok (.invokevirtual 58, 3) := by decide +kernel
theorem dX8_works_12 : decode cX8_works 12 = .ok (.istore 4, 2) := by decide +kernel
theorem dX8_works_14 : decode cX8_works 14 = .ok (.aload_n 0, 1) := by decide +kernel
theorem dX8_works_15 : decode cX8_works 15 = .ok (.iload_n 1, 1) := by decide +kernel
theorem dX8_works_16 : decode cX8_works 16 = .ok (.iconst 3, 1) := by decide +kernel
theorem dX8_works_17 : decode cX8_works 17 = .ok (.aload_n 0, 1) := by decide +kernel
theorem dX8_works_18 : decode cX8_works 18 = .ok (.iload_n 1, 1) := by decide +kernel
theorem dX8_works_19 : decode cX8_works 19 = .ok (.iconst 3, 1) := by decide +kernel
theorem dX8_works_20 : decode cX8_works 20 = .ok (.invokevirtual 58, 3) := by decide +kernel
theorem dX8_works_23 : decode cX8_works 23 = .ok (.iconst 1, 1) := by decide +kernel
theorem dX8_works_24 : decode cX8_works 24 = .ok (.iadd, 1) := by decide +kernel
theorem dX8_works_25 : decode cX8_works 25 = .ok (.invokevirtual 31, 3) := by decide +kernel
theorem dX8_works_28 : decode cX8_works 28 = .ok (.aload_n 0, 1) := by decide +kernel
theorem dX8_works_29 : decode cX8_works 29 = .ok (.iload_n 1, 1) := by decide +kernel
theorem dX8_works_30 : decode cX8_works 30 = .ok (.iconst 4, 1) := by decide +kernel
theorem dX8_works_31 : decode cX8_works 31 = .ok (.aload_n 0, 1) := by decide +kernel
theorem dX8_works_32 : decode cX8_works 32 = .ok (.iload_n 1, 1) := by decide +kernel
theorem dX8_works_33 : decode cX8_works 33 = .ok (.iconst 4, 1) := by decide +kernel
theorem dX8_works_34 : decode cX8_works 34 = .ok (.invokevirtual 58, 3) := by decide +kernel
theorem dX8_works_37 : decode cX8_works 37 = .ok (.aload_n 0, 1) := by decide +kernel
theorem dX8_works_38 : decode cX8_works 38 = .ok (.iload_n 2, 1) := by decide +kernel
theorem dX8_works_39 : decode cX8_works 39 = .ok (.invokevirtual 104, 3) := by decide +kernel
theorem dX8_works_42 : decode cX8_works 42 = .ok (.iadd, 1) := by decide +kernel
theorem dX8_works_43 : decode cX8_works 43 = .ok (.invokevirtual 31, 3) := by decide +kernel
theorem dX8_works_46 : decode cX8_works 46 = .ok (.aload_n 0, 1) := by decide +kernel
theorem dX8_works_47 : decode cX8_works 47 = .ok (.iload_n 1, 1) := by decide +kernel
theorem dX8_works_48 : decode cX8_works 48 = .ok (.bipush 6, 2) := by decide +kernel
theorem dX8_works_50 : decode cX8_works 50 = .ok (.aload_n 0, 1) := by decide +kernel
theorem dX8_works_51 : decode cX8_works 51 = .ok (.iload_n 1, 1) := by decide +kernel
theorem dX8_works_52 : decode cX8_works 52 = .ok (.bipush 6, 2) := by decide +kernel
theorem dX8_works_54 : decode cX8_works 54 = .ok (.invokevirtual 58, 3) := by decide +kernel
theorem dX8_works_57 : decode cX8_works 57 = .ok (.aload_n 0, 1) := by decide +kernel
theorem dX8_works_58 : decode cX8_works 58 = .ok (.iload_n 2, 1) := by decide +kernel
theorem dX8_works_59 : decode cX8_works 59 = .ok (.iconst 1, 1) := by decide +kernel
theorem dX8_works_60 : decode cX8_works 60 = .ok (.iload_n 1, 1) := by decide +kernel
theorem dX8_works_61 : decode cX8_works 61 = .ok (.iadd, 1) := by decide +kernel
theorem dX8_works_62 : decode cX8_works 62 = .ok (.invokevirtual 51, 3) := by decide +kernel
theorem dX8_works_65 : decode cX8_works 65 = .ok (.ifCond .eq 7, 3) := by decide +kernel
theorem dX8_works_68 : decode cX8_works 68 = .ok (.iconst 1, 1) := by decide +kernel
theorem dX8_works_69 : decode cX8_works 69 = .ok (.goto 4, 3) := by decide +kernel
theorem dX8_works_72 : decode cX8_works 72 = .ok (.iconst 0, 1) := by decide +kernel
theorem dX8_works_73 : decode cX8_works 73 = .ok (.iadd, 1) := by decide +kernel
theorem dX8_works_74 : decode cX8_works 74 = .ok (.invokevirtual 31, 3) := by decide +kernel
theorem dX8_works_77 : decode cX8_works 77 = .ok (.aload_n 0, 1) := by decide +kernel
theorem dX8_works_78 : decode cX8_works 78 = .ok (.iload_n 1, 1) := by decide +kernel
theorem dX8_works_79 : decode cX8_works 79 = .ok (.bipush 7, 2) := by decide +kernel
theorem dX8_works_81 : decode cX8_works 81 = .ok (.aload_n 0, 1) := by decide +kernel
theorem dX8_works_82 : decode cX8_works 82 = .ok (.iload_n 1, 1) := by decide +kernel
theorem dX8_works_83 : decode cX8_works 83 = .ok (.bipush 7, 2) := by decide +kernel
theorem dX8_works_85 : decode cX8_works 85 = .ok (.invokevirtual 58, 3) := by decide +kernel
theorem dX8_works_88 : decode cX8_works 88 = .ok (.iload_n 3, 1) := by decide +kernel
theorem dX8_works_89 : decode cX8_works 89 = .ok (.aload_n 0, 1) := by decide +kernel
theorem dX8_works_90 : decode cX8_works 90 = .ok (.iload_n 1, 1) := by decide +kernel
theorem dX8_works_91 : decode cX8_works 91 = .ok (.iconst 1, 1) := by decide +kernel
theorem dX8_works_92 : decode cX8_works 92 = .ok (.invokevirtual 58, 3) := by decide +kernel
theorem dX8_works_95 : decode cX8_works 95 = .ok (.if_icmp .ge 7, 3) := by decide +kernel
theorem dX8_works_98 : decode cX8_works 98 = .ok (.iconst 1, 1) := by decide +kernel
theorem dX8_works_99 : decode cX8_works 99 = .ok (.goto 4, 3) := by decide +kernel
theorem dX8_works_102 : decode cX8_works 102 = .ok (.iconst 0, 1) := by decide +kernel
theorem dX8_works_103 : decode cX8_works 103 = .ok (.iadd, 1) := by decide +kernel
theorem dX8_works_104 : decode cX8_works 104 = .ok (.invokevirtual 31, 3) := by decide +kernel
theorem dX8_works_107 : decode cX8_works 107 = .ok (.aload_n 0, 1) := by decide +kernel
theorem dX8_works_108 : decode cX8_works 108 = .ok (.iload_n 1, 1) := by decide +kernel
theorem dX8_works_109 : decode cX8_works 109 = .ok (.iconst 1, 1) := by decide +kernel
theorem dX8_works_110 : decode cX8_works 110 = .ok (.iload_n 3, 1) := by decide +kernel
theorem dX8_works_111 : decode cX8_works 111 = .ok (.aload_n 0, 1) := by decide +kernel
theorem dX8_works_112 : decode cX8_works 112 = .ok (.iload_n 1, 1) := by decide +kernel
theorem dX8_works_113 : decode cX8_works 113 = .ok (.iconst 1, 1) := by decide +kernel
theorem dX8_works_114 : decode cX8_works 114 = .ok (.invokevirtual 58, 3) := by decide +kernel
theorem dX8_works_117 : decode cX8_works 117 = .ok (.if_icmp .le 7, 3) := by decide +kernel
theorem dX8_works_120 : decode cX8_works 120 = .ok (.iload_n 3, 1) := by decide +kernel
theorem dX8_works_121 : decode cX8_works 121 = .ok (.goto 9, 3) := by decide +kernel
theorem dX8_works_124 : decode cX8_works 124 = .ok (.aload_n 0, 1) := by decide +kernel
theorem dX8_works_125 : decode cX8_works 125 = .ok (.iload_n 1, 1) := by decide +kernel
theorem dX8_works_126 : decode cX8_works 126 = .ok (.iconst 1, 1) := by decide +kernel
theorem dX8_works_127 : decode cX8_works 127 = .ok (.invokevirtual 58, 3) := by decide +kernel
theorem dX8_works_130 : decode cX8_works 130 = .ok (.invokevirtual 31, 3) := by decide +kernel
theorem dX8_works_133 : decode cX8_works 133 = .ok (.aload_n 0, 1) := by decide +kernel
theorem dX8_works_134 : decode cX8_works 134 = .ok (.iload_n 1, 1) := by decide +kernel
theorem dX8_works_135 : decode cX8_works 135 = .ok (.bipush 13, 2) := by decide +kernel
theorem dX8_works_137 : decode cX8_works 137 = .ok (.iload 4, 2) := by decide +kernel
theorem dX8_works_139 : decode cX8_works 139 = .ok (.iadd, 1) := by decide +kernel
theorem dX8_works_140 : decode cX8_works 140 = .ok (.iload_n 3, 1) := by decide +kernel
theorem dX8_works_141 : decode cX8_works 141 = .ok (.invokevirtual 31, 3) := by decide +kernel
theorem dX8_works_144 : decode cX8_works 144 = .ok (.aload_n 0, 1) := by decide +kernel
theorem dX8_works_145 : decode cX8_works 145 = .ok (.iload_n 1, 1) := by decide +kernel
theorem dX8_works_146 : decode cX8_works 146 = .ok (.iconst 2, 1) := by decide +kernel
theorem dX8_works_147 : decode cX8_works 147 = .ok (.iload 4, 2) := by decide +kernel
theorem dX8_works_149 : decode cX8_works 149 = .ok (.iconst 1, 1) := by decide +kernel
theorem dX8_works_150 : decode cX8_works 150 = .ok (.iadd, 1) := by decide +kernel
theorem dX8_works_151 : decode cX8_works 151 = .ok (.invokevirtual 31, 3) := by decide +kernel
theorem dX8_works_154 : decode cX8_works 154 = .ok (.iload 4, 2) := by decide +kernel
theorem dX8_works_156 : decode cX8_works 156 = .ok (.iconst 1, 1) := by decide +kernel
theorem dX8_works_157 : decode cX8_works 157 = .ok (.iadd, 1) := by decide +kernel
theorem dX8_works_158 : decode cX8_works 158 = .ok (.aload_n 0, 1) := by decide +kernel
theorem dX8_works_159 : decode cX8_works 159 = .ok (.getfield 7, 3) := by decide +kernel
theorem dX8_works_162 : decode cX8_works 162 = .ok (.bipush 16, 2) := by decide +kernel
theorem dX8_works_164 : decode cX8_works 164 = .ok (.iaload, 1) := by decide +kernel
theorem dX8_works_165 : decode cX8_works 165 = .ok (.if_icmp .le 60, 3) := by decide +kernel
theorem dX8_works_168 : decode cX8_works 168 = .ok (.iconst 0, 1) := by decide +kernel
theorem dX8_works_169 : decode cX8_works 169 = .ok (.istore 5, 2) := by decide +kernel
theorem dX8_works_171 : decode cX8_works 171 = .ok (.iload 5, 2) := by decide +kernel
theorem dX8_works_173 : decode cX8_works 173 = .ok (.iload 4, 2) := by decide +kernel
theorem dX8_works_175 : decode cX8_works 175 = .ok (.if_icmp .ge 31, 3) := by decide +kernel
theorem dX8_works_178 : decode cX8_works 178 = .ok (.aload_n 0, 1) := by decide +kernel
theorem dX8_works_179 : decode cX8_works 179 = .ok (.iload_n 1, 1) := by decide +kernel
theorem dX8_works_180 : decode cX8_works 180 = .ok (.bipush 13, 2) := by decide +kernel
theorem dX8_works_182 : decode cX8_works 182 = .ok (.iload 5, 2) := by decide +kernel
theorem dX8_works_184 : decode cX8_works 184 = .ok (.iadd, 1) := by decide +kernel
theorem dX8_works_185 : decode cX8_works 185 = .ok (.aload_n 0, 1) := by decide +kernel
theorem dX8_works_186 : decode cX8_works 186 = .ok (.iload_n 1, 1) := by decide +kernel
theorem dX8_works_187 : decode cX8_works 187 = .ok (.bipush 13, 2) := by decide +kernel
theorem dX8_works_189 : decode cX8_works 189 = .ok (.iload 5, 2) := by decide +kernel
theorem dX8_works_191 : decode cX8_works 191 = .ok (.iadd, 1) := by decide +kernel
theorem dX8_works_192 : decode cX8_works 192 = .ok (.iconst 1, 1) := by decide +kernel
theorem dX8_works_193 : decode cX8_works 193 = .ok (.iadd, 1) := by decide +kernel
theorem dX8_works_194 : decode cX8_works 194 = .ok (.invokevirtual 58, 3) := by decide +kernel
theorem dX8_works_197 : decode cX8_works 197 = .ok (.invokevirtual 31, 3) := by decide +kernel
theorem dX8_works_200 : decode cX8_works 200 = .ok (.iinc 5 1, 3) := by decide +kernel
theorem dX8_works_203 : decode cX8_works 203 = .ok (.goto (-32), 3) := by decide +kernel
theorem dX8_works_206 : decode cX8_works 206 = .ok (.aload_n 0, 1) := by decide +kernel
theorem dX8_works_207 : decode cX8_works 207 = .ok (.iload_n 1, 1) := by decide +kernel
theorem dX8_works_208 : decode cX8_works 208 = .ok (.bipush 13, 2) := by decide +kernel
theorem dX8_works_210 : decode cX8_works 210 = .ok (.iload 4, 2) := by decide +kernel
theorem dX8_works_212 : decode cX8_works 212 = .ok (.iadd, 1) := by decide +kernel
theorem dX8_works_213 : decode cX8_works 213 = .ok (.iconst 0, 1) := by decide +kernel
theorem dX8_works_214 : decode cX8_works 214 = .ok (.invokevirtual 31, 3) := by decide +kernel
theorem dX8_works_217 : decode cX8_works 217 = .ok (.aload_n 0, 1) := by decide +kernel
theorem dX8_works_218 : decode cX8_works 218 = .ok (.iload_n 1, 1) := by decide +kernel
theorem dX8_works_219 : decode cX8_works 219 = .ok (.iconst 2, 1) := by decide +kernel
theorem dX8_works_220 : decode cX8_works 220 = .ok (.iload 4, 2) := by decide +kernel
theorem dX8_works_222 : decode cX8_works 222 = .ok (.invokevirtual 31, 3) := by decide +kernel
theorem dX8_works_225 : decode cX8_works 225 = .ok (.aload_n 0, 1) := by decide +kernel
theorem dX8_works_226 : decode cX8_works 226 = .ok (.iload_n 2, 1) := by decide +kernel
theorem dX8_works_227 : decode cX8_works 227 = .ok (.iconst 1, 1) := by decide +kernel
theorem dX8_works_228 : decode cX8_works 228 = .ok (.iload_n 1, 1) := by decide +kernel
theorem dX8_works_229 : decode cX8_works 229 = .ok (.iadd, 1) := by decide +kernel
theorem dX8_works_230 : decode cX8_works 230 = .ok (.invokevirtual 97, 3) := by decide +kernel
theorem dX8_works_233 : decode cX8_works 233 = .ok (.return_, 1) := by decide +kernel
theorem dX8_batchComes_0 : decode cX8_batchComes 0 = .ok (.aload_n 0, 1) := by decide +kernel
theorem dX8_batchComes_1 : decode cX8_batchComes 1 = .ok (.iload_n 1, 1) := by decide +kernel
theorem dX8_batchComes_2 : decode cX8_batchComes 2 = .ok (.iconst 1, 1) := by decide +kernel
theorem dX8_batchComes_3 : decode cX8_batchComes 3 = .ok (.invokevirtual 101, 3) := by decide +kernel
theorem dX8_batchComes_6 : decode cX8_batchComes 6 = .ok (.istore_n 2, 1) := by decide +kernel
theorem dX8_batchComes_7 : decode cX8_batchComes 7 = .ok (.iconst 0, 1) := by decide +kernel
theorem dX8_batchComes_8 : decode cX8_batchComes 8 = .ok (.istore_n 3, 1) := by decide +kernel
theorem dX8_batchComes_9 : decode cX8_batchComes 9 = .ok (.iload_n 3, 1) := by decide +kernel
theorem dX8_batchComes_10 : decode cX8_batchComes 10 = .ok (.aload_n 0, 1) := by decide +kernel
theorem dX8_batchComes_11 : decode cX8_batchComes 11 = .ok (.iload_n 1, 1) := by decide +kernel
theorem dX8_batchComes_12 : decode cX8_batchComes 12 = .ok (.iconst 3, 1) := by decide +kernel
theorem dX8_batchComes_13 : decode cX8_batchComes 13 = .ok (.invokevirtual 101, 3) := by decide +kernel
theorem dX8_batchComes_16 : decode cX8_batchComes 16 = .ok (.if_icmp .ge 93, 3) := by decide +kernel
theorem dX8_batchComes_19 : decode cX8_batchComes 19 = .ok (.aload_n 0, 1) := by decide +kernel
theorem dX8_batchComes_20 : decode cX8_batchComes 20 = .ok (.iload_n 1, 1) := by decide +kernel
theorem dX8_batchComes_21 : decode cX8_batchComes 21 = .ok (.iload_n 3, 1) := by decide +kernel
theorem dX8_batchComes_22 : decode cX8_batchComes 22 = .ok (.invokevirtual 107, 3) := by decide +kernel
theorem dX8_batchComes_25 : decode cX8_batchComes 25 = .ok (.istore 4, 2) := by decide +kernel
theorem dX8_batchComes_27 : decode cX8_batchComes 27 = .ok (.aload_n 0, 1) := by decide +kernel
theorem dX8_batchComes_28 : decode cX8_batchComes 28 = .ok (.getfield 7, 3) := by decide +kernel
theorem dX8_batchComes_31 : decode cX8_batchComes 31 = .ok (.bipush 15, 2) := by decide +kernel
theorem dX8_batchComes_33 : decode cX8_batchComes 33 = .ok (.iaload, 1) := by decide +kernel
theorem dX8_batchComes_34 : decode cX8_batchComes 34 = .ok (.iconst 1, 1) := by decide +kernel
theorem dX8_batchComes_35 : decode cX8_batchComes 35 = .ok (.if_icmp .ne 26, 3) := by decide +kernel
theorem dX8_batchComes_38 : decode cX8_batchComes 38 = .ok (.aload_n 0, 1) := by decide +kernel
theorem dX8_batchComes_39 : decode cX8_batchComes 39 = .ok (.iload 4, 2) := by decide +kernel
theorem dX8_batchComes_41 : decode cX8_batchComes 41 = .ok (.invokevirtual 55, 3) := by decide +kernel
theorem dX8_batchComes_44 : decode cX8_batchComes 44 = .ok (.aload_n 0, 1) := by decide +kernel
theorem dX8_batchComes_45 : decode cX8_batchComes 45 = .ok (.iload_n 2, 1) := by decide +kernel
theorem dX8_batchComes_46 : decode cX8_batchComes 46 = .ok (.iconst 1, 1) := by decide +kernel
theorem dX8_batchComes_47 : decode cX8_batchComes 47 = .ok (.invokevirtual 58, 3) := by decide +kernel
theorem dX8_batchComes_50 : decode cX8_batchComes 50 = .ok (.if_icmp .gt 7, 3) := by decide +kernel
theorem dX8_batchComes_53 : decode cX8_batchComes 53 = .ok (.iconst 1, 1) := by decide +kernel
theorem dX8_batchComes_54 : decode cX8_batchComes 54 = .ok (.goto 18, 3) := by decide +kernel
theorem dX8_batchComes_57 : decode cX8_batchComes 57 = .ok (.iconst 0, 1) := by decide +kernel
theorem dX8_batchComes_58 : decode cX8_batchComes 58 = .ok (.goto 14, 3) := by decide +kernel
theorem dX8_batchComes_61 : decode cX8_batchComes 61 = .ok (.aload_n 0, 1) := by decide +kernel
theorem dX8_batchComes_62 : decode cX8_batchComes 62 = .ok (.iload_n 2, 1) := by decide +kernel
theorem dX8_batchComes_63 : decode cX8_batchComes 63 = .ok (.aload_n 0, 1) := by decide +kernel
theorem dX8_batchComes_64 : decode cX8_batchComes 64 = .ok (.iload 4, 2) := by decide +kernel
theorem dX8_batchComes_66 : decode cX8_batchComes 66 = .ok (.invokevirtual 55, 3) := by decide +kernel
theorem dX8_batchComes_69 : decode cX8_batchComes 69 = .ok (.invokevirtual 110, 3) := by decide +kernel
theorem dX8_batchComes_72 : decode cX8_batchComes 72 = .ok (.istore 5, 2) := by decide +kernel
theorem dX8_batchComes_74 : decode cX8_batchComes 74 = .ok (.iload 5, 2) := by decide +kernel
theorem dX8_batchComes_76 : decode cX8_batchComes 76 = .ok (.ifCond .eq 20, 3) := by decide +kernel
theorem dX8_batchComes_79 : decode cX8_batchComes 79 = .ok (.aload_n 0, 1) := by decide +kernel
theorem dX8_batchComes_80 : decode cX8_batchComes 80 = .ok (.iload_n 2, 1) := by decide +kernel
theorem dX8_batchComes_81 : decode cX8_batchComes 81 = .ok (.iconst 5, 1) := by decide +kernel
theorem dX8_batchComes_82 : decode cX8_batchComes 82 = .ok (.aload_n 0, 1) := by decide +kernel
theorem dX8_batchComes_83 : decode cX8_batchComes 83 = .ok (.iload_n 2, 1) := by decide +kernel
theorem dX8_batchComes_84 : decode cX8_batchComes 84 = .ok (.iconst 5, 1) := by decide +kernel
theorem dX8_batchComes_85 : decode cX8_batchComes 85 = .ok (.invokevirtual 58, 3) := by decide +kernel
theorem dX8_batchComes_88 : decode cX8_batchComes 88 = .ok (.iconst 1, 1) := by decide +kernel
theorem dX8_batchComes_89 : decode cX8_batchComes 89 = .ok (.iadd, 1) := by decide +kernel
theorem dX8_batchComes_90 : decode cX8_batchComes 90 = .ok (.invokevirtual 31, 3) := by decide +kernel
theorem dX8_batchComes_93 : decode cX8_batchComes 93 = .ok (.goto 10, 3) := by decide +kernel
theorem dX8_batchComes_96 : decode cX8_batchComes 96 = .ok (.aload_n 0, 1) := by decide +kernel
theorem dX8_batchComes_97 : decode cX8_batchComes 97 = .ok (.iload_n 2, 1) := by decide +kernel
theorem dX8_batchComes_98 : decode cX8_batchComes 98 = .ok (.iload 4, 2) := by decide +kernel
theorem dX8_batchComes_100 : decode cX8_batchComes 100 = .ok (.invokevirtual 113, 3) := by decide +kernel
theorem dX8_batchComes_103 : decode cX8_batchComes 103 = .ok (.iinc 3 1, 3) := by decide +kernel
theorem dX8_batchComes_106 : decode cX8_batchComes 106 = .ok (.goto (-97), 3) := by decide +kernel
theorem dX8_batchComes_109 : decode cX8_batchComes 109 = .ok (.aload_n 0, 1) := by decide +kernel
theorem dX8_batchComes_110 : decode cX8_batchComes 110 = .ok (.iload_n 1, 1) := by decide +kernel
theorem dX8_batchComes_111 : decode cX8_batchComes 111 = .ok (.iconst 4, 1) := by decide +kernel
theorem dX8_batchComes_112 : decode cX8_batchComes 112 = .ok (.invokevirtual 101, 3) := by decide +kernel
theorem dX8_batchComes_115 : decode cX8_batchComes 115 = .ok (.istore_n 3, 1) := by decide +kernel
theorem dX8_batchComes_116 : decode cX8_batchComes 116 = .ok (.aload_n 0, 1) := by decide +kernel
theorem dX8_batchComes_117 : decode cX8_batchComes 117 = .ok (.iload_n 1, 1) := by decide +kernel
theorem dX8_batchComes_118 : decode cX8_batchComes 118 = .ok (.invokevirtual 116, 3) := by decide +kernel
theorem dX8_batchComes_121 : decode cX8_batchComes 121 = .ok (.aload_n 0, 1) := by decide +kernel
theorem dX8_batchComes_122 : decode cX8_batchComes 122 = .ok (.iconst 1, 1) := by decide +kernel
theorem dX8_batchComes_123 : decode cX8_batchComes 123 = .ok (.iload_n 2, 1) := by decide +kernel
theorem dX8_batchComes_124 : decode cX8_batchComes 124 = .ok (.iconst 0, 1) := by decide +kernel
theorem dX8_batchComes_125 : decode cX8_batchComes 125 = .ok (.iload_n 3, 1) := by decide +kernel
theorem dX8_batchComes_126 : decode cX8_batchComes 126 = .ok (.invokevirtual 120, 3) := by decide +kernel
theorem dX8_batchComes_129 : decode cX8_batchComes 129 = .ok (.return_, 1) := by decide +kernel
theorem dX8_answerComes_0 : decode cX8_answerComes 0 = .ok (.aload_n 0, 1) := by decide +kernel
theorem dX8_answerComes_1 : decode cX8_answerComes 1 = .ok (.iload_n 1, 1) := by decide +kernel
theorem dX8_answerComes_2 : decode cX8_answerComes 2 = .ok (.iconst 1, 1) := by decide +kernel
theorem dX8_answerComes_3 : decode cX8_answerComes 3 = .ok (.invokevirtual 101, 3) := by decide +kernel
theorem dX8_answerComes_6 : decode cX8_answerComes 6 = .ok (.istore_n 2, 1) := by decide +kernel
theorem dX8_answerComes_7 : decode cX8_answerComes 7 = .ok (.aload_n 0, 1) := by decide +kernel
theorem dX8_answerComes_8 : decode cX8_answerComes 8 = .ok (.iload_n 1, 1) := by decide +kernel
theorem dX8_answerComes_9 : decode cX8_answerComes 9 = .ok (.iconst 4, 1) := by decide +kernel
theorem dX8_answerComes_10 : decode cX8_answerComes 10 = .ok (.invokevirtual 101, 3) := by decide +kernel
theorem dX8_answerComes_13 : decode cX8_answerComes 13 = .ok (.istore_n 3, 1) := by decide +kernel
theorem dX8_answerComes_14 : decode cX8_answerComes 14 = .ok (.aload_n 0, 1) := by decide +kernel
theorem dX8_answerComes_15 : decode cX8_answerComes 15 = .ok (.iload_n 1, 1) := by decide +kernel
theorem dX8_answerComes_16 : decode cX8_answerComes 16 = .ok (.invokevirtual 116, 3) := by decide +kernel
theorem dX8_answerComes_19 : decode cX8_answerComes 19 = .ok (.aload_n 0, 1) := by decide +kernel
theorem dX8_answerComes_20 : decode cX8_answerComes 20 = .ok (.getfield 7, 3) := by decide +kernel
theorem dX8_answerComes_23 : decode cX8_answerComes 23 = .ok (.bipush 7, 2) := by decide +kernel
theorem dX8_answerComes_25 : decode cX8_answerComes 25 = .ok (.dup2, 1) := by decide +kernel
theorem dX8_answerComes_26 : decode cX8_answerComes 26 = .ok (.iaload, 1) := by decide +kernel
theorem dX8_answerComes_27 : decode cX8_answerComes 27 = .ok (.iconst 1, 1) := by decide +kernel
theorem dX8_answerComes_28 : decode cX8_answerComes 28 = .ok (.iadd, 1) := by decide +kernel
theorem dX8_answerComes_29 : decode cX8_answerComes 29 = .ok (.iastore, 1) := by decide +kernel
theorem dX8_answerComes_30 : decode cX8_answerComes 30 = .ok (.aload_n 0, 1) := by decide +kernel
theorem dX8_answerComes_31 : decode cX8_answerComes 31 = .ok (.iload_n 2, 1) := by decide +kernel
theorem dX8_answerComes_32 : decode cX8_answerComes 32 = .ok (.bipush 8, 2) := by decide +kernel
theorem dX8_answerComes_34 : decode cX8_answerComes 34 = .ok (.iload_n 3, 1) := by decide +kernel
theorem dX8_answerComes_35 : decode cX8_answerComes 35 = .ok (.aload_n 0, 1) := by decide +kernel
theorem dX8_answerComes_36 : decode cX8_answerComes 36 = .ok (.iload_n 2, 1) := by decide +kernel
theorem dX8_answerComes_37 : decode cX8_answerComes 37 = .ok (.bipush 8, 2) := by decide +kernel
theorem dX8_answerComes_39 : decode cX8_answerComes 39 = .ok (.invokevirtual 58, 3) := by decide +kernel
theorem dX8_answerComes_42 : decode cX8_answerComes 42 = .ok (.if_icmp .le 7, 3) := by decide +kernel
theorem dX8_answerComes_45 : decode cX8_answerComes 45 = .ok (.iload_n 3, 1) := by decide +kernel
theorem dX8_answerComes_46 : decode cX8_answerComes 46 = .ok (.goto 10, 3) := by decide +kernel
theorem dX8_answerComes_49 : decode cX8_answerComes 49 = .ok (.aload_n 0, 1) := by decide +kernel
theorem dX8_answerComes_50 : decode cX8_answerComes 50 = .ok (.iload_n 2, 1) := by decide +kernel
theorem dX8_answerComes_51 : decode cX8_answerComes 51 = .ok (.bipush 8, 2) := by decide +kernel
theorem dX8_answerComes_53 : decode cX8_answerComes 53 = .ok (.invokevirtual 58, 3) := by decide +kernel
theorem dX8_answerComes_56 : decode cX8_answerComes 56 = .ok (.invokevirtual 31, 3) := by decide +kernel
theorem dX8_answerComes_59 : decode cX8_answerComes 59 = .ok (.iload_n 3, 1) := by decide +kernel
theorem dX8_answerComes_60 : decode cX8_answerComes 60 = .ok (.aload_n 0, 1) := by decide +kernel
theorem dX8_answerComes_61 : decode cX8_answerComes 61 = .ok (.iload_n 2, 1) := by decide +kernel
theorem dX8_answerComes_62 : decode cX8_answerComes 62 = .ok (.bipush 10, 2) := by decide +kernel
theorem dX8_answerComes_64 : decode cX8_answerComes 64 = .ok (.invokevirtual 58, 3) := by decide +kernel
theorem dX8_answerComes_67 : decode cX8_answerComes 67 = .ok (.if_icmp .lt 11, 3) := by decide +kernel
theorem dX8_answerComes_70 : decode cX8_answerComes 70 = .ok (.aload_n 0, 1) := by decide +kernel
theorem dX8_answerComes_71 : decode cX8_answerComes 71 = .ok (.iload_n 2, 1) := by decide +kernel
theorem dX8_answerComes_72 : decode cX8_answerComes 72 = .ok (.bipush 9, 2) := by decide +kernel
theorem dX8_answerComes_74 : decode cX8_answerComes 74 = .ok (.iconst 0, 1) := by decide +kernel
theorem dX8_answerComes_75 : decode cX8_answerComes 75 = .ok (.invokevirtual 31, 3) := by decide +kernel
theorem dX8_answerComes_78 : decode cX8_answerComes 78 = .ok (.return_, 1) := by decide +kernel
theorem dX8_due_0 : decode cX8_due 0 = .ok (.iconst 0, 1) := by decide +kernel
theorem dX8_due_1 : decode cX8_due 1 = .ok (.istore_n 1, 1) := by decide +kernel
theorem dX8_due_2 : decode cX8_due 2 = .ok (.iload_n 1, 1) := by decide +kernel
theorem dX8_due_3 : decode cX8_due 3 = .ok (.aload_n 0, 1) := by decide +kernel
theorem dX8_due_4 : decode cX8_due 4 = .ok (.getfield 7, 3) := by decide +kernel
theorem dX8_due_7 : decode cX8_due 7 = .ok (.bipush 9, 2) := by decide +kernel
theorem dX8_due_9 : decode cX8_due 9 = .ok (.iaload, 1) := by decide +kernel
theorem dX8_due_10 : decode cX8_due 10 = .ok (.if_icmp .ge 26, 3) := by decide +kernel
theorem dX8_due_13 : decode cX8_due 13 = .ok (.aload_n 0, 1) := by decide +kernel
theorem dX8_due_14 : decode cX8_due 14 = .ok (.iload_n 1, 1) := by decide +kernel
theorem dX8_due_15 : decode cX8_due 15 = .ok (.iconst 2, 1) := by decide +kernel
theorem dX8_due_16 : decode cX8_due 16 = .ok (.invokevirtual 101, 3) := by decide +kernel
theorem dX8_due_19 : decode cX8_due 19 = .ok (.aload_n 0, 1) := by decide +kernel
theorem dX8_due_20 : decode cX8_due 20 = .ok (.getfield 7, 3) := by decide +kernel
theorem dX8_due_23 : decode cX8_due 23 = .ok (.iconst 0, 1) := by decide +kernel
theorem dX8_due_24 : decode cX8_due 24 = .ok (.iaload, 1) := by decide +kernel
theorem dX8_due_25 : decode cX8_due 25 = .ok (.if_icmp .gt 5, 3) := by decide +kernel
theorem dX8_due_28 : decode cX8_due 28 = .ok (.iload_n 1, 1) := by decide +kernel
theorem dX8_due_29 : decode cX8_due 29 = .ok (.ireturn, 1) := by decide +kernel
theorem dX8_due_30 : decode cX8_due 30 = .ok (.iinc 1 1, 3) := by decide +kernel
theorem dX8_due_33 : decode cX8_due 33 = .ok (.goto (-31), 3) := by decide +kernel
theorem dX8_due_36 : decode cX8_due 36 = .ok (.iconst (-1), 1) := by decide +kernel
theorem dX8_due_37 : decode cX8_due 37 = .ok (.ireturn, 1) := by decide +kernel
theorem dX8_gather_0 : decode cX8_gather 0 = .ok (.iconst 0, 1) := by decide +kernel
theorem dX8_gather_1 : decode cX8_gather 1 = .ok (.istore_n 2, 1) := by decide +kernel
theorem dX8_gather_2 : decode cX8_gather 2 = .ok (.aload_n 0, 1) := by decide +kernel
theorem dX8_gather_3 : decode cX8_gather 3 = .ok (.aload_n 0, 1) := by decide +kernel
theorem dX8_gather_4 : decode cX8_gather 4 = .ok (.iload_n 1, 1) := by decide +kernel
theorem dX8_gather_5 : decode cX8_gather 5 = .ok (.bipush 8, 2) := by decide +kernel
theorem dX8_gather_7 : decode cX8_gather 7 = .ok (.invokevirtual 58, 3) := by decide +kernel
theorem dX8_gather_10 : decode cX8_gather 10 = .ok (.invokevirtual 124, 3) := by decide +kernel
theorem dX8_gather_13 : decode cX8_gather 13 = .ok (.istore_n 3, 1) := by decide +kernel
theorem dX8_gather_14 : decode cX8_gather 14 = .ok (.iload_n 3, 1) := by decide +kernel
theorem dX8_gather_15 : decode cX8_gather 15 = .ok (.iconst (-1), 1) := by decide +kernel
theorem dX8_gather_16 : decode cX8_gather 16 = .ok (.if_icmp .eq 50, 3) := by decide +kernel
theorem dX8_gather_19 : decode cX8_gather 19 = .ok (.iload_n 2, 1) := by decide +kernel
theorem dX8_gather_20 : decode cX8_gather 20 = .ok (.aload_n 0, 1) := by decide +kernel
theorem dX8_gather_21 : decode cX8_gather 21 = .ok (.getfield 7, 3) := by decide +kernel
theorem dX8_gather_24 : decode cX8_gather 24 = .ok (.bipush 12, 2) := by decide +kernel
theorem dX8_gather_26 : decode cX8_gather 26 = .ok (.iaload, 1) := by decide +kernel
theorem dX8_gather_27 : decode cX8_gather 27 = .ok (.if_icmp .ge 39, 3) := by decide +kernel
theorem dX8_gather_30 : decode cX8_gather 30 = .ok (.aload_n 0, 1) := by decide +kernel
theorem dX8_gather_31 : decode cX8_gather 31 = .ok (.iload_n 1, 1) := by decide +kernel
theorem dX8_gather_32 : decode cX8_gather 32 = .ok (.aload_n 0, 1) := by decide +kernel
theorem dX8_gather_33 : decode cX8_gather 33 = .ok (.iload_n 3, 1) := by decide +kernel
theorem dX8_gather_34 : decode cX8_gather 34 = .ok (.invokevirtual 61, 3) := by decide +kernel
theorem dX8_gather_37 : decode cX8_gather 37 = .ok (.invokevirtual 64, 3) := by decide +kernel
theorem dX8_gather_40 : decode cX8_gather 40 = .ok (.ifCond .eq 13, 3) := by decide +kernel
theorem dX8_gather_43 : decode cX8_gather 43 = .ok (.aload_n 0, 1) := by decide +kernel
theorem dX8_gather_44 : decode cX8_gather 44 = .ok (.getfield 28, 3) := by decide +kernel
theorem dX8_gather_47 : decode cX8_gather 47 = .ok (.iload_n 2, 1) := by decide +kernel
theorem dX8_gather_48 : decode cX8_gather 48 = .ok (.iload_n 3, 1) := by decide +kernel
theorem dX8_gather_49 : decode cX8_gather 49 = .ok (.iastore, 1) := by decide +kernel
theorem dX8_gather_50 : decode cX8_gather 50 = .ok (.iinc 2 1, 3) := by decide +kernel
theorem dX8_gather_53 : decode cX8_gather 53 = .ok (.aload_n 0, 1) := by decide +kernel
theorem dX8_gather_54 : decode cX8_gather 54 = .ok (.aload_n 0, 1) := by decide +kernel
theorem dX8_gather_55 : decode cX8_gather 55 = .ok (.iload_n 3, 1) := by decide +kernel
theorem dX8_gather_56 : decode cX8_gather 56 = .ok (.invokevirtual 55, 3) := by decide +kernel
theorem dX8_gather_59 : decode cX8_gather 59 = .ok (.invokevirtual 124, 3) := by decide +kernel
theorem dX8_gather_62 : decode cX8_gather 62 = .ok (.istore_n 3, 1) := by decide +kernel
theorem dX8_gather_63 : decode cX8_gather 63 = .ok (.goto (-49), 3) := by decide +kernel
theorem dX8_gather_66 : decode cX8_gather 66 = .ok (.iload_n 2, 1) := by decide +kernel
theorem dX8_gather_67 : decode cX8_gather 67 = .ok (.ireturn, 1) := by decide +kernel
theorem dX8_relays_0 : decode cX8_relays 0 = .ok (.aload_n 0, 1) := by decide +kernel
theorem dX8_relays_1 : decode cX8_relays 1 = .ok (.iload_n 1, 1) := by decide +kernel
theorem dX8_relays_2 : decode cX8_relays 2 = .ok (.bipush 9, 2) := by decide +kernel
theorem dX8_relays_4 : decode cX8_relays 4 = .ok (.invokevirtual 58, 3) := by decide +kernel
theorem dX8_relays_7 : decode cX8_relays 7 = .ok (.ifCond .eq 27, 3) := by decide +kernel
theorem dX8_relays_10 : decode cX8_relays 10 = .ok (.aload_n 0, 1) := by decide +kernel
theorem dX8_relays_11 : decode cX8_relays 11 = .ok (.getfield 7, 3) := by decide +kernel
theorem dX8_relays_14 : decode cX8_relays 14 = .ok (.iconst 0, 1) := by decide +kernel
theorem dX8_relays_15 : decode cX8_relays 15 = .ok (.iaload, 1) := by decide +kernel
theorem dX8_relays_16 : decode cX8_relays 16 = .ok (.aload_n 0, 1) := by decide +kernel
theorem dX8_relays_17 : decode cX8_relays 17 = .ok (.iload_n 1, 1) := by decide +kernel
theorem dX8_relays_18 : decode cX8_relays 18 = .ok (.bipush 11, 2) := by decide +kernel
theorem dX8_relays_20 : decode cX8_relays 20 = .ok (.invokevirtual 58, 3) := by decide +kernel
theorem dX8_relays_23 : decode cX8_relays 23 = .ok (.isub, 1) := by decide +kernel
theorem dX8_relays_24 : decode cX8_relays 24 = .ok (.aload_n 0, 1) := by decide +kernel
theorem dX8_relays_25 : decode cX8_relays 25 = .ok (.getfield 7, 3) := by decide +kernel
theorem dX8_relays_28 : decode cX8_relays 28 = .ok (.bipush 13, 2) := by decide +kernel
theorem dX8_relays_30 : decode cX8_relays 30 = .ok (.iaload, 1) := by decide +kernel
theorem dX8_relays_31 : decode cX8_relays 31 = .ok (.if_icmp .lt 7, 3) := by decide +kernel
theorem dX8_relays_34 : decode cX8_relays 34 = .ok (.iconst 1, 1) := by decide +kernel
theorem dX8_relays_35 : decode cX8_relays 35 = .ok (.goto 4, 3) := by decide +kernel
theorem dX8_relays_38 : decode cX8_relays 38 = .ok (.iconst 0, 1) := by decide +kernel
theorem dX8_relays_39 : decode cX8_relays 39 = .ok (.istore_n 2, 1) := by decide +kernel
theorem dX8_relays_40 : decode cX8_relays 40 = .ok (.iload_n 2, 1) := by decide +kernel
theorem dX8_relays_41 : decode cX8_relays 41 = .ok (.ifCond .eq 11, 3) := by decide +kernel
theorem dX8_relays_44 : decode cX8_relays 44 = .ok (.aload_n 0, 1) := by decide +kernel
theorem dX8_relays_45 : decode cX8_relays 45 = .ok (.iload_n 1, 1) := by decide +kernel
theorem dX8_relays_46 : decode cX8_relays 46 = .ok (.invokevirtual 127, 3) := by decide +kernel
theorem dX8_relays_49 : decode cX8_relays 49 = .ok (.goto 4, 3) := by decide +kernel
theorem dX8_relays_52 : decode cX8_relays 52 = .ok (.iconst 0, 1) := by decide +kernel
theorem dX8_relays_53 : decode cX8_relays 53 = .ok (.istore_n 3, 1) := by decide +kernel
theorem dX8_relays_54 : decode cX8_relays 54 = .ok (.iload_n 3, 1) := by decide +kernel
theorem dX8_relays_55 : decode cX8_relays 55 = .ok (.ifCond .le 113, 3) := by decide +kernel
theorem dX8_relays_58 : decode cX8_relays 58 = .ok (.iconst 0, 1) := by decide +kernel
theorem dX8_relays_59 : decode cX8_relays 59 = .ok (.istore 4, 2) := by decide +kernel
theorem dX8_relays_61 : decode cX8_relays 61 = .ok (.iload 4, 2) := by decide +kernel
theorem dX8_relays_63 : decode cX8_relays 63 = .ok (.iload_n 3, 1) := by decide +kernel
theorem dX8_relays_64 : decode cX8_relays 64 = .ok (.if_icmp .ge 23, 3) := by decide +kernel
theorem dX8_relays_67 : decode cX8_relays 67 = .ok (.aload_n 0, 1) := by decide +kernel
theorem dX8_relays_68 : decode cX8_relays 68 = .ok (.aload_n 0, 1) := by decide +kernel
theorem dX8_relays_69 : decode cX8_relays 69 = .ok (.getfield 28, 3) := by decide +kernel
theorem dX8_relays_72 : decode cX8_relays 72 = .ok (.iload 4, 2) := by decide +kernel
theorem dX8_relays_74 : decode cX8_relays 74 = .ok (.iaload, 1) := by decide +kernel
theorem dX8_relays_75 : decode cX8_relays 75 = .ok (.iconst 4, 1) := by decide +kernel
theorem dX8_relays_76 : decode cX8_relays 76 = .ok (.iload_n 1, 1) := by decide +kernel
theorem dX8_relays_77 : decode cX8_relays 77 = .ok (.iadd, 1) := by decide +kernel
theorem dX8_relays_78 : decode cX8_relays 78 = .ok (.invokevirtual 97, 3) := by decide +kernel
theorem dX8_relays_81 : decode cX8_relays 81 = .ok (.iinc 4 1, 3) := by decide +kernel
theorem dX8_relays_84 : decode cX8_relays 84 = .ok (.goto (-23), 3) := by decide +kernel
theorem dX8_relays_87 : decode cX8_relays 87 = .ok (.aload_n 0, 1) := by decide +kernel
theorem dX8_relays_88 : decode cX8_relays 88 = .ok (.iload_n 1, 1) := by decide +kernel
theorem dX8_relays_89 : decode cX8_relays 89 = .ok (.bipush 9, 2) := by decide +kernel
theorem dX8_relays_91 : decode cX8_relays 91 = .ok (.iconst 1, 1) := by decide +kernel
theorem dX8_relays_92 : decode cX8_relays 92 = .ok (.invokevirtual 31, 3) := by decide +kernel
theorem dX8_relays_95 : decode cX8_relays 95 = .ok (.aload_n 0, 1) := by decide +kernel
theorem dX8_relays_96 : decode cX8_relays 96 = .ok (.iload_n 1, 1) := by decide +kernel
theorem dX8_relays_97 : decode cX8_relays 97 = .ok (.bipush 11, 2) := by decide +kernel
theorem dX8_relays_99 : decode cX8_relays 99 = .ok (.aload_n 0, 1) := by decide +kernel
theorem dX8_relays_100 : decode cX8_relays 100 = .ok (.getfield 7, 3) := by decide +kernel
theorem dX8_relays_103 : decode cX8_relays 103 = .ok (.iconst 0, 1) := by decide +kernel
theorem dX8_relays_104 : decode cX8_relays 104 = .ok (.iaload, 1) := by decide +kernel
theorem dX8_relays_105 : decode cX8_relays 105 = .ok (.invokevirtual 31, 3) := by decide +kernel
theorem dX8_relays_108 : decode cX8_relays 108 = .ok (.aload_n 0, 1) := by decide +kernel
theorem dX8_relays_109 : decode cX8_relays 109 = .ok (.iload_n 1, 1) := by decide +kernel
theorem dX8_relays_110 : decode cX8_relays 110 = .ok (.bipush 10, 2) := by decide +kernel
theorem dX8_relays_112 : decode cX8_relays 112 = .ok (.aload_n 0, 1) := by decide +kernel
theorem dX8_relays_113 : decode cX8_relays 113 = .ok (.aload_n 0, 1) := by decide +kernel
theorem dX8_relays_114 : decode cX8_relays 114 = .ok (.getfield 28, 3) := by decide +kernel
theorem dX8_relays_117 : decode cX8_relays 117 = .ok (.iload_n 3, 1) := by decide +kernel
theorem dX8_relays_118 : decode cX8_relays 118 = .ok (.iconst 1, 1) := by decide +kernel
theorem dX8_relays_119 : decode cX8_relays 119 = .ok (.isub, 1) := by decide +kernel
theorem dX8_relays_120 : decode cX8_relays 120 = .ok (.iaload, 1) := by decide +kernel
theorem dX8_relays_121 : decode cX8_relays 121 = .ok (.invokevirtual 55, 3) := by decide +kernel
theorem dX8_relays_124 : decode cX8_relays 124 = .ok (.invokevirtual 31, 3) := by decide +kernel
theorem dX8_relays_127 : decode cX8_relays 127 = .ok (.aload_n 0, 1) := by decide +kernel
theorem dX8_relays_128 : decode cX8_relays 128 = .ok (.getfield 7, 3) := by decide +kernel
theorem dX8_relays_131 : decode cX8_relays 131 = .ok (.bipush 6, 2) := by decide +kernel
theorem dX8_relays_133 : decode cX8_relays 133 = .ok (.dup2, 1) := by decide +kernel
theorem dX8_relays_134 : decode cX8_relays 134 = .ok (.iaload, 1) := by decide +kernel
theorem dX8_relays_135 : decode cX8_relays 135 = .ok (.iconst 1, 1) := by decide +kernel
theorem dX8_relays_136 : decode cX8_relays 136 = .ok (.iadd, 1) := by decide +kernel
theorem dX8_relays_137 : decode cX8_relays 137 = .ok (.iastore, 1) := by decide +kernel
theorem dX8_relays_138 : decode cX8_relays 138 = .ok (.aload_n 0, 1) := by decide +kernel
theorem dX8_relays_139 : decode cX8_relays 139 = .ok (.getfield 7, 3) := by decide +kernel
theorem dX8_relays_142 : decode cX8_relays 142 = .ok (.bipush 8, 2) := by decide +kernel
theorem dX8_relays_144 : decode cX8_relays 144 = .ok (.dup2, 1) := by decide +kernel
theorem dX8_relays_145 : decode cX8_relays 145 = .ok (.iaload, 1) := by decide +kernel
theorem dX8_relays_146 : decode cX8_relays 146 = .ok (.iload_n 3, 1) := by decide +kernel
theorem dX8_relays_147 : decode cX8_relays 147 = .ok (.iadd, 1) := by decide +kernel
theorem dX8_relays_148 : decode cX8_relays 148 = .ok (.iastore, 1) := by decide +kernel
theorem dX8_relays_149 : decode cX8_relays 149 = .ok (.aload_n 0, 1) := by decide +kernel
theorem dX8_relays_150 : decode cX8_relays 150 = .ok (.iconst 0, 1) := by decide +kernel
theorem dX8_relays_151 : decode cX8_relays 151 = .ok (.iload_n 1, 1) := by decide +kernel
theorem dX8_relays_152 : decode cX8_relays 152 = .ok (.iload_n 3, 1) := by decide +kernel
theorem dX8_relays_153 : decode cX8_relays 153 = .ok (.aload_n 0, 1) := by decide +kernel
theorem dX8_relays_154 : decode cX8_relays 154 = .ok (.aload_n 0, 1) := by decide +kernel
theorem dX8_relays_155 : decode cX8_relays 155 = .ok (.getfield 28, 3) := by decide +kernel
theorem dX8_relays_158 : decode cX8_relays 158 = .ok (.iload_n 3, 1) := by decide +kernel
theorem dX8_relays_159 : decode cX8_relays 159 = .ok (.iconst 1, 1) := by decide +kernel
theorem dX8_relays_160 : decode cX8_relays 160 = .ok (.isub, 1) := by decide +kernel
theorem dX8_relays_161 : decode cX8_relays 161 = .ok (.iaload, 1) := by decide +kernel
theorem dX8_relays_162 : decode cX8_relays 162 = .ok (.invokevirtual 55, 3) := by decide +kernel
theorem dX8_relays_165 : decode cX8_relays 165 = .ok (.invokevirtual 120, 3) := by decide +kernel
theorem dX8_relays_168 : decode cX8_relays 168 = .ok (.return_, 1) := by decide +kernel
theorem dX8_tick_0 : decode cX8_tick 0 = .ok (.aload_n 0, 1) := by decide +kernel
theorem dX8_tick_1 : decode cX8_tick 1 = .ok (.getfield 7, 3) := by decide +kernel
theorem dX8_tick_4 : decode cX8_tick 4 = .ok (.iconst 0, 1) := by decide +kernel
theorem dX8_tick_5 : decode cX8_tick 5 = .ok (.dup2, 1) := by decide +kernel
theorem dX8_tick_6 : decode cX8_tick 6 = .ok (.iaload, 1) := by decide +kernel
theorem dX8_tick_7 : decode cX8_tick 7 = .ok (.iconst 1, 1) := by decide +kernel
theorem dX8_tick_8 : decode cX8_tick 8 = .ok (.iadd, 1) := by decide +kernel
theorem dX8_tick_9 : decode cX8_tick 9 = .ok (.iastore, 1) := by decide +kernel
theorem dX8_tick_10 : decode cX8_tick 10 = .ok (.aload_n 0, 1) := by decide +kernel
theorem dX8_tick_11 : decode cX8_tick 11 = .ok (.invokevirtual 130, 3) := by decide +kernel
theorem dX8_tick_14 : decode cX8_tick 14 = .ok (.istore_n 1, 1) := by decide +kernel
theorem dX8_tick_15 : decode cX8_tick 15 = .ok (.iload_n 1, 1) := by decide +kernel
theorem dX8_tick_16 : decode cX8_tick 16 = .ok (.iconst (-1), 1) := by decide +kernel
theorem dX8_tick_17 : decode cX8_tick 17 = .ok (.if_icmp .eq 33, 3) := by decide +kernel
theorem dX8_tick_20 : decode cX8_tick 20 = .ok (.aload_n 0, 1) := by decide +kernel
theorem dX8_tick_21 : decode cX8_tick 21 = .ok (.iload_n 1, 1) := by decide +kernel
theorem dX8_tick_22 : decode cX8_tick 22 = .ok (.iconst 0, 1) := by decide +kernel
theorem dX8_tick_23 : decode cX8_tick 23 = .ok (.invokevirtual 101, 3) := by decide +kernel
theorem dX8_tick_26 : decode cX8_tick 26 = .ok (.ifCond .ne 11, 3) := by decide +kernel
theorem dX8_tick_29 : decode cX8_tick 29 = .ok (.aload_n 0, 1) := by decide +kernel
theorem dX8_tick_30 : decode cX8_tick 30 = .ok (.iload_n 1, 1) := by decide +kernel
theorem dX8_tick_31 : decode cX8_tick 31 = .ok (.invokevirtual 133, 3) := by decide +kernel
theorem dX8_tick_34 : decode cX8_tick 34 = .ok (.goto 8, 3) := by decide +kernel
theorem dX8_tick_37 : decode cX8_tick 37 = .ok (.aload_n 0, 1) := by decide +kernel
theorem dX8_tick_38 : decode cX8_tick 38 = .ok (.iload_n 1, 1) := by decide +kernel
theorem dX8_tick_39 : decode cX8_tick 39 = .ok (.invokevirtual 136, 3) := by decide +kernel
theorem dX8_tick_42 : decode cX8_tick 42 = .ok (.aload_n 0, 1) := by decide +kernel
theorem dX8_tick_43 : decode cX8_tick 43 = .ok (.invokevirtual 130, 3) := by decide +kernel
theorem dX8_tick_46 : decode cX8_tick 46 = .ok (.istore_n 1, 1) := by decide +kernel
theorem dX8_tick_47 : decode cX8_tick 47 = .ok (.goto (-32), 3) := by decide +kernel
theorem dX8_tick_50 : decode cX8_tick 50 = .ok (.iconst 0, 1) := by decide +kernel
theorem dX8_tick_51 : decode cX8_tick 51 = .ok (.istore_n 2, 1) := by decide +kernel
theorem dX8_tick_52 : decode cX8_tick 52 = .ok (.iload_n 2, 1) := by decide +kernel
theorem dX8_tick_53 : decode cX8_tick 53 = .ok (.iconst 3, 1) := by decide +kernel
theorem dX8_tick_54 : decode cX8_tick 54 = .ok (.if_icmp .ge 14, 3) := by decide +kernel
theorem dX8_tick_57 : decode cX8_tick 57 = .ok (.aload_n 0, 1) := by decide +kernel
theorem dX8_tick_58 : decode cX8_tick 58 = .ok (.iload_n 2, 1) := by decide +kernel
theorem dX8_tick_59 : decode cX8_tick 59 = .ok (.invokevirtual 139, 3) := by decide +kernel
theorem dX8_tick_62 : decode cX8_tick 62 = .ok (.iinc 2 1, 3) := by decide +kernel
theorem dX8_tick_65 : decode cX8_tick 65 = .ok (.goto (-13), 3) := by decide +kernel
theorem dX8_tick_68 : decode cX8_tick 68 = .ok (.return_, 1) := by decide +kernel
theorem dX8_effects_0 : decode cX8_effects 0 = .ok (.aload_n 0, 1) := by decide +kernel
theorem dX8_effects_1 : decode cX8_effects 1 = .ok (.iconst 0, 1) := by decide +kernel
theorem dX8_effects_2 : decode cX8_effects 2 = .ok (.iconst 3, 1) := by decide +kernel
theorem dX8_effects_3 : decode cX8_effects 3 = .ok (.invokevirtual 58, 3) := by decide +kernel
theorem dX8_effects_6 : decode cX8_effects 6 = .ok (.aload_n 0, 1) := by decide +kernel
theorem dX8_effects_7 : decode cX8_effects 7 = .ok (.iconst 1, 1) := by decide +kernel
theorem dX8_effects_8 : decode cX8_effects 8 = .ok (.iconst 3, 1) := by decide +kernel
theorem dX8_effects_9 : decode cX8_effects 9 = .ok (.invokevirtual 58, 3) := by decide +kernel
theorem dX8_effects_12 : decode cX8_effects 12 = .ok (.iadd, 1) := by decide +kernel
theorem dX8_effects_13 : decode cX8_effects 13 = .ok (.aload_n 0, 1) := by decide +kernel
theorem dX8_effects_14 : decode cX8_effects 14 = .ok (.iconst 2, 1) := by decide +kernel
theorem dX8_effects_15 : decode cX8_effects 15 = .ok (.iconst 3, 1) := by decide +kernel
theorem dX8_effects_16 : decode cX8_effects 16 = .ok (.invokevirtual 58, 3) := by decide +kernel
theorem dX8_effects_19 : decode cX8_effects 19 = .ok (.iadd, 1) := by decide +kernel
theorem dX8_effects_20 : decode cX8_effects 20 = .ok (.ireturn, 1) := by decide +kernel
theorem dX8_passes_0 : decode cX8_passes 0 = .ok (.aload_n 0, 1) := by decide +kernel
theorem dX8_passes_1 : decode cX8_passes 1 = .ok (.invokevirtual 142, 3) := by decide +kernel
theorem dX8_passes_4 : decode cX8_passes 4 = .ok (.istore_n 2, 1) := by decide +kernel
theorem dX8_passes_5 : decode cX8_passes 5 = .ok (.iconst 0, 1) := by decide +kernel
theorem dX8_passes_6 : decode cX8_passes 6 = .ok (.istore_n 3, 1) := by decide +kernel
theorem dX8_passes_7 : decode cX8_passes 7 = .ok (.iload_n 3, 1) := by decide +kernel
theorem dX8_passes_8 : decode cX8_passes 8 = .ok (.iload_n 1, 1) := by decide +kernel
theorem dX8_passes_9 : decode cX8_passes 9 = .ok (.if_icmp .ge 13, 3) := by decide +kernel
theorem dX8_passes_12 : decode cX8_passes 12 = .ok (.aload_n 0, 1) := by decide +kernel
theorem dX8_passes_13 : decode cX8_passes 13 = .ok (.invokevirtual 145, 3) := by decide +kernel
theorem dX8_passes_16 : decode cX8_passes 16 = .ok (.iinc 3 1, 3) := by decide +kernel
theorem dX8_passes_19 : decode cX8_passes 19 = .ok (.goto (-12), 3) := by decide +kernel
theorem dX8_passes_22 : decode cX8_passes 22 = .ok (.aload_n 0, 1) := by decide +kernel
theorem dX8_passes_23 : decode cX8_passes 23 = .ok (.invokevirtual 142, 3) := by decide +kernel
theorem dX8_passes_26 : decode cX8_passes 26 = .ok (.iload_n 2, 1) := by decide +kernel
theorem dX8_passes_27 : decode cX8_passes 27 = .ok (.isub, 1) := by decide +kernel
theorem dX8_passes_28 : decode cX8_passes 28 = .ok (.ireturn, 1) := by decide +kernel
theorem dX8_begin_0 : decode cX8_begin 0 = .ok (.aload_n 0, 1) := by decide +kernel
theorem dX8_begin_1 : decode cX8_begin 1 = .ok (.iconst 0, 1) := by decide +kernel
theorem dX8_begin_2 : decode cX8_begin 2 = .ok (.putfield 35, 3) := by decide +kernel
theorem dX8_begin_5 : decode cX8_begin 5 = .ok (.aload_n 0, 1) := by decide +kernel
theorem dX8_begin_6 : decode cX8_begin 6 = .ok (.invokevirtual 83, 3) := by decide +kernel
theorem dX8_begin_9 : decode cX8_begin 9 = .ok (.iconst (-1), 1) := by decide +kernel
theorem dX8_begin_10 : decode cX8_begin 10 = .ok (.if_icmp .ne 9, 3) := by decide +kernel
theorem dX8_begin_13 : decode cX8_begin 13 = .ok (.aload_n 0, 1) := by decide +kernel
theorem dX8_begin_14 : decode cX8_begin 14 = .ok (.iconst 1, 1) := by decide +kernel
theorem dX8_begin_15 : decode cX8_begin 15 = .ok (.invokevirtual 73, 3) := by decide +kernel
theorem dX8_begin_18 : decode cX8_begin 18 = .ok (.ireturn, 1) := by decide +kernel
theorem dX8_begin_19 : decode cX8_begin 19 = .ok (.aload_n 0, 1) := by decide +kernel
theorem dX8_begin_20 : decode cX8_begin 20 = .ok (.invokevirtual 80, 3) := by decide +kernel
theorem dX8_begin_23 : decode cX8_begin 23 = .ok (.aload_n 0, 1) := by decide +kernel
theorem dX8_begin_24 : decode cX8_begin 24 = .ok (.invokevirtual 148, 3) := by decide +kernel
theorem dX8_begin_27 : decode cX8_begin 27 = .ok (.ireturn, 1) := by decide +kernel
theorem dX8_write_0 : decode cX8_write 0 = .ok (.aload_n 0, 1) := by decide +kernel
theorem dX8_write_1 : decode cX8_write 1 = .ok (.iconst 0, 1) := by decide +kernel
theorem dX8_write_2 : decode cX8_write 2 = .ok (.putfield 35, 3) := by decide +kernel
theorem dX8_write_5 : decode cX8_write 5 = .ok (.aload_n 0, 1) := by decide +kernel
theorem dX8_write_6 : decode cX8_write 6 = .ok (.iload_n 1, 1) := by decide +kernel
theorem dX8_write_7 : decode cX8_write 7 = .ok (.invokevirtual 87, 3) := by decide +kernel
theorem dX8_write_10 : decode cX8_write 10 = .ok (.ifCond .ne 9, 3) := by decide +kernel
theorem dX8_write_13 : decode cX8_write 13 = .ok (.aload_n 0, 1) := by decide +kernel
theorem dX8_write_14 : decode cX8_write 14 = .ok (.iconst 1, 1) := by decide +kernel
theorem dX8_write_15 : decode cX8_write 15 = .ok (.invokevirtual 73, 3) := by decide +kernel
theorem dX8_write_18 : decode cX8_write 18 = .ok (.ireturn, 1) := by decide +kernel
theorem dX8_write_19 : decode cX8_write 19 = .ok (.iload_n 2, 1) := by decide +kernel
theorem dX8_write_20 : decode cX8_write 20 = .ok (.iconst 0, 1) := by decide +kernel
theorem dX8_write_21 : decode cX8_write 21 = .ok (.iconst 3, 1) := by decide +kernel
theorem dX8_write_22 : decode cX8_write 22 = .ok (.invokestatic 39, 3) := by decide +kernel
theorem dX8_write_25 : decode cX8_write 25 = .ok (.ifCond .eq 13, 3) := by decide +kernel
theorem dX8_write_28 : decode cX8_write 28 = .ok (.iload_n 3, 1) := by decide +kernel
theorem dX8_write_29 : decode cX8_write 29 = .ok (.iconst 0, 1) := by decide +kernel
theorem dX8_write_30 : decode cX8_write 30 = .ok (.bipush 99, 2) := by decide +kernel
theorem dX8_write_32 : decode cX8_write 32 = .ok (.invokestatic 39, 3) := by decide +kernel
theorem dX8_write_35 : decode cX8_write 35 = .ok (.ifCond .ne 9, 3) := by decide +kernel
theorem dX8_write_38 : decode cX8_write 38 = .ok (.aload_n 0, 1) := by decide +kernel
theorem dX8_write_39 : decode cX8_write 39 = .ok (.iconst 2, 1) := by decide +kernel
theorem dX8_write_40 : decode cX8_write 40 = .ok (.invokevirtual 73, 3) := by decide +kernel
theorem dX8_write_43 : decode cX8_write 43 = .ok (.ireturn, 1) := by decide +kernel
theorem dX8_write_44 : decode cX8_write 44 = .ok (.aload_n 0, 1) := by decide +kernel
theorem dX8_write_45 : decode cX8_write 45 = .ok (.iload_n 1, 1) := by decide +kernel
theorem dX8_write_46 : decode cX8_write 46 = .ok (.iconst 1, 1) := by decide +kernel
theorem dX8_write_47 : decode cX8_write 47 = .ok (.invokevirtual 43, 3) := by decide +kernel
theorem dX8_write_50 : decode cX8_write 50 = .ok (.bipush 6, 2) := by decide +kernel
theorem dX8_write_52 : decode cX8_write 52 = .ok (.if_icmp .ne 9, 3) := by decide +kernel
theorem dX8_write_55 : decode cX8_write 55 = .ok (.aload_n 0, 1) := by decide +kernel
theorem dX8_write_56 : decode cX8_write 56 = .ok (.iconst 3, 1) := by decide +kernel
theorem dX8_write_57 : decode cX8_write 57 = .ok (.invokevirtual 73, 3) := by decide +kernel
theorem dX8_write_60 : decode cX8_write 60 = .ok (.ireturn, 1) := by decide +kernel
theorem dX8_write_61 : decode cX8_write 61 = .ok (.aload_n 0, 1) := by decide +kernel
theorem dX8_write_62 : decode cX8_write 62 = .ok (.invokevirtual 80, 3) := by decide +kernel
theorem dX8_write_65 : decode cX8_write 65 = .ok (.aload_n 0, 1) := by decide +kernel
theorem dX8_write_66 : decode cX8_write 66 = .ok (.iload_n 1, 1) := by decide +kernel
theorem dX8_write_67 : decode cX8_write 67 = .ok (.iload_n 2, 1) := by decide +kernel
theorem dX8_write_68 : decode cX8_write 68 = .ok (.iload_n 3, 1) := by decide +kernel
theorem dX8_write_69 : decode cX8_write 69 = .ok (.invokevirtual 151, 3) := by decide +kernel
theorem dX8_write_72 : decode cX8_write 72 = .ok (.ireturn, 1) := by decide +kernel
theorem dX8_commit_0 : decode cX8_commit 0 = .ok (.aload_n 0, 1) := by decide +kernel
theorem dX8_commit_1 : decode cX8_commit 1 = .ok (.iconst 0, 1) := by decide +kernel
theorem dX8_commit_2 : decode cX8_commit 2 = .ok (.putfield 35, 3) := by decide +kernel
theorem dX8_commit_5 : decode cX8_commit 5 = .ok (.aload_n 0, 1) := by decide +kernel
theorem dX8_commit_6 : decode cX8_commit 6 = .ok (.iload_n 1, 1) := by decide +kernel
theorem dX8_commit_7 : decode cX8_commit 7 = .ok (.invokevirtual 87, 3) := by decide +kernel
theorem dX8_commit_10 : decode cX8_commit 10 = .ok (.ifCond .ne 9, 3) := by decide +kernel
theorem dX8_commit_13 : decode cX8_commit 13 = .ok (.aload_n 0, 1) := by decide +kernel
theorem dX8_commit_14 : decode cX8_commit 14 = .ok (.iconst 1, 1) := by decide +kernel
theorem dX8_commit_15 : decode cX8_commit 15 = .ok (.invokevirtual 73, 3) := by decide +kernel
theorem dX8_commit_18 : decode cX8_commit 18 = .ok (.ireturn, 1) := by decide +kernel
theorem dX8_commit_19 : decode cX8_commit 19 = .ok (.aload_n 0, 1) := by decide +kernel
theorem dX8_commit_20 : decode cX8_commit 20 = .ok (.invokevirtual 91, 3) := by decide +kernel
theorem dX8_commit_23 : decode cX8_commit 23 = .ok (.aload_n 0, 1) := by decide +kernel
theorem dX8_commit_24 : decode cX8_commit 24 = .ok (.iload_n 1, 1) := by decide +kernel
theorem dX8_commit_25 : decode cX8_commit 25 = .ok (.iconst 1, 1) := by decide +kernel
theorem dX8_commit_26 : decode cX8_commit 26 = .ok (.invokevirtual 43, 3) := by decide +kernel
theorem dX8_commit_29 : decode cX8_commit 29 = .ok (.iadd, 1) := by decide +kernel
theorem dX8_commit_30 : decode cX8_commit 30 = .ok (.bipush 60, 2) := by decide +kernel
theorem dX8_commit_32 : decode cX8_commit 32 = .ok (.if_icmp .gt 22, 3) := by decide +kernel
theorem dX8_commit_35 : decode cX8_commit 35 = .ok (.aload_n 0, 1) := by decide +kernel
theorem dX8_commit_36 : decode cX8_commit 36 = .ok (.getfield 7, 3) := by decide +kernel
theorem dX8_commit_39 : decode cX8_commit 39 = .ok (.iconst 2, 1) := by decide +kernel
theorem dX8_commit_40 : decode cX8_commit 40 = .ok (.iaload, 1) := by decide +kernel
theorem dX8_commit_41 : decode cX8_commit 41 = .ok (.aload_n 0, 1) := by decide +kernel
theorem dX8_commit_42 : decode cX8_commit 42 = .ok (.iload_n 1, 1) := by decide +kernel
theorem dX8_commit_43 : decode cX8_commit 43 = .ok (.iconst 1, 1) := by decide +kernel
theorem dX8_commit_44 : decode cX8_commit 44 = .ok (.invokevirtual 43, 3) := by decide +kernel
theorem dX8_commit_47 : decode cX8_commit 47 = .ok (.iadd, 1) := by decide +kernel
theorem dX8_commit_48 : decode cX8_commit 48 = .ok (.sipush 200, 3) := by decide +kernel
theorem dX8_commit_51 : decode cX8_commit 51 = .ok (.if_icmp .le 9, 3) := by decide +kernel
theorem dX8_commit_54 : decode cX8_commit 54 = .ok (.aload_n 0, 1) := by decide +kernel
theorem dX8_commit_55 : decode cX8_commit 55 = .ok (.iconst 2, 1) := by decide +kernel
theorem dX8_commit_56 : decode cX8_commit 56 = .ok (.invokevirtual 73, 3) := by decide +kernel
theorem dX8_commit_59 : decode cX8_commit 59 = .ok (.ireturn, 1) := by decide +kernel
theorem dX8_commit_60 : decode cX8_commit 60 = .ok (.aload_n 0, 1) := by decide +kernel
theorem dX8_commit_61 : decode cX8_commit 61 = .ok (.invokevirtual 80, 3) := by decide +kernel
theorem dX8_commit_64 : decode cX8_commit 64 = .ok (.aload_n 0, 1) := by decide +kernel
theorem dX8_commit_65 : decode cX8_commit 65 = .ok (.iload_n 1, 1) := by decide +kernel
theorem dX8_commit_66 : decode cX8_commit 66 = .ok (.invokevirtual 155, 3) := by decide +kernel
theorem dX8_commit_69 : decode cX8_commit 69 = .ok (.ireturn, 1) := by decide +kernel
theorem dX8_drop_0 : decode cX8_drop 0 = .ok (.aload_n 0, 1) := by decide +kernel
theorem dX8_drop_1 : decode cX8_drop 1 = .ok (.iconst 0, 1) := by decide +kernel
theorem dX8_drop_2 : decode cX8_drop 2 = .ok (.putfield 35, 3) := by decide +kernel
theorem dX8_drop_5 : decode cX8_drop 5 = .ok (.aload_n 0, 1) := by decide +kernel
theorem dX8_drop_6 : decode cX8_drop 6 = .ok (.iload_n 1, 1) := by decide +kernel
theorem dX8_drop_7 : decode cX8_drop 7 = .ok (.invokevirtual 87, 3) := by decide +kernel
theorem dX8_drop_10 : decode cX8_drop 10 = .ok (.ifCond .ne 9, 3) := by decide +kernel
theorem dX8_drop_13 : decode cX8_drop 13 = .ok (.aload_n 0, 1) := by decide +kernel
theorem dX8_drop_14 : decode cX8_drop 14 = .ok (.iconst 1, 1) := by decide +kernel
theorem dX8_drop_15 : decode cX8_drop 15 = .ok (.invokevirtual 73, 3) := by decide +kernel
theorem dX8_drop_18 : decode cX8_drop 18 = .ok (.ireturn, 1) := by decide +kernel
theorem dX8_drop_19 : decode cX8_drop 19 = .ok (.aload_n 0, 1) := by decide +kernel
theorem dX8_drop_20 : decode cX8_drop 20 = .ok (.invokevirtual 80, 3) := by decide +kernel
theorem dX8_drop_23 : decode cX8_drop 23 = .ok (.aload_n 0, 1) := by decide +kernel
theorem dX8_drop_24 : decode cX8_drop 24 = .ok (.iload_n 1, 1) := by decide +kernel
theorem dX8_drop_25 : decode cX8_drop 25 = .ok (.invokevirtual 158, 3) := by decide +kernel
theorem dX8_drop_28 : decode cX8_drop 28 = .ok (.ireturn, 1) := by decide +kernel
theorem dX8_want_0 : decode cX8_want 0 = .ok (.aload_n 0, 1) := by decide +kernel
theorem dX8_want_1 : decode cX8_want 1 = .ok (.iconst 0, 1) := by decide +kernel
theorem dX8_want_2 : decode cX8_want 2 = .ok (.putfield 35, 3) := by decide +kernel
theorem dX8_want_5 : decode cX8_want 5 = .ok (.iload_n 1, 1) := by decide +kernel
theorem dX8_want_6 : decode cX8_want 6 = .ok (.iconst 0, 1) := by decide +kernel
theorem dX8_want_7 : decode cX8_want 7 = .ok (.iconst 2, 1) := by decide +kernel
theorem dX8_want_8 : decode cX8_want 8 = .ok (.invokestatic 39, 3) := by decide +kernel
theorem dX8_want_11 : decode cX8_want 11 = .ok (.ifCond .ne 9, 3) := by decide +kernel
theorem dX8_want_14 : decode cX8_want 14 = .ok (.aload_n 0, 1) := by decide +kernel
theorem dX8_want_15 : decode cX8_want 15 = .ok (.iconst 1, 1) := by decide +kernel
theorem dX8_want_16 : decode cX8_want 16 = .ok (.invokevirtual 73, 3) := by decide +kernel
theorem dX8_want_19 : decode cX8_want 19 = .ok (.ireturn, 1) := by decide +kernel
theorem dX8_want_20 : decode cX8_want 20 = .ok (.iload_n 2, 1) := by decide +kernel
theorem dX8_want_21 : decode cX8_want 21 = .ok (.iconst 0, 1) := by decide +kernel
theorem dX8_want_22 : decode cX8_want 22 = .ok (.bipush 15, 2) := by decide +kernel
theorem dX8_want_24 : decode cX8_want 24 = .ok (.invokestatic 39, 3) := by decide +kernel
theorem dX8_want_27 : decode cX8_want 27 = .ok (.ifCond .ne 9, 3) := by decide +kernel
theorem dX8_want_30 : decode cX8_want 30 = .ok (.aload_n 0, 1) := by decide +kernel
theorem dX8_want_31 : decode cX8_want 31 = .ok (.iconst 2, 1) := by decide +kernel
theorem dX8_want_32 : decode cX8_want 32 = .ok (.invokevirtual 73, 3) := by decide +kernel
theorem dX8_want_35 : decode cX8_want 35 = .ok (.ireturn, 1) := by decide +kernel
theorem dX8_want_36 : decode cX8_want 36 = .ok (.aload_n 0, 1) := by decide +kernel
theorem dX8_want_37 : decode cX8_want 37 = .ok (.invokevirtual 80, 3) := by decide +kernel
theorem dX8_want_40 : decode cX8_want 40 = .ok (.aload_n 0, 1) := by decide +kernel
theorem dX8_want_41 : decode cX8_want 41 = .ok (.iload_n 1, 1) := by decide +kernel
theorem dX8_want_42 : decode cX8_want 42 = .ok (.iconst 0, 1) := by decide +kernel
theorem dX8_want_43 : decode cX8_want 43 = .ok (.invokevirtual 58, 3) := by decide +kernel
theorem dX8_want_46 : decode cX8_want 46 = .ok (.istore_n 3, 1) := by decide +kernel
theorem dX8_want_47 : decode cX8_want 47 = .ok (.aload_n 0, 1) := by decide +kernel
theorem dX8_want_48 : decode cX8_want 48 = .ok (.iload_n 1, 1) := by decide +kernel
theorem dX8_want_49 : decode cX8_want 49 = .ok (.iconst 0, 1) := by decide +kernel
theorem dX8_want_50 : decode cX8_want 50 = .ok (.iload_n 2, 1) := by decide +kernel
theorem dX8_want_51 : decode cX8_want 51 = .ok (.invokevirtual 31, 3) := by decide +kernel
theorem dX8_want_54 : decode cX8_want 54 = .ok (.iload_n 3, 1) := by decide +kernel
theorem dX8_want_55 : decode cX8_want 55 = .ok (.ireturn, 1) := by decide +kernel
theorem dX8_pass_0 : decode cX8_pass 0 = .ok (.aload_n 0, 1) := by decide +kernel
theorem dX8_pass_1 : decode cX8_pass 1 = .ok (.iconst 0, 1) := by decide +kernel
theorem dX8_pass_2 : decode cX8_pass 2 = .ok (.putfield 35, 3) := by decide +kernel
theorem dX8_pass_5 : decode cX8_pass 5 = .ok (.iload_n 1, 1) := by decide +kernel
theorem dX8_pass_6 : decode cX8_pass 6 = .ok (.iconst 1, 1) := by decide +kernel
theorem dX8_pass_7 : decode cX8_pass 7 = .ok (.bipush 99, 2) := by decide +kernel
theorem dX8_pass_9 : decode cX8_pass 9 = .ok (.invokestatic 39, 3) := by decide +kernel
theorem dX8_pass_12 : decode cX8_pass 12 = .ok (.ifCond .ne 9, 3) := by decide +kernel
theorem dX8_pass_15 : decode cX8_pass 15 = .ok (.aload_n 0, 1) := by decide +kernel
theorem dX8_pass_16 : decode cX8_pass 16 = .ok (.iconst 1, 1) := by decide +kernel
theorem dX8_pass_17 : decode cX8_pass 17 = .ok (.invokevirtual 73, 3) := by decide +kernel
theorem dX8_pass_20 : decode cX8_pass 20 = .ok (.ireturn, 1) := by decide +kernel
theorem dX8_pass_21 : decode cX8_pass 21 = .ok (.aload_n 0, 1) := by decide +kernel
theorem dX8_pass_22 : decode cX8_pass 22 = .ok (.invokevirtual 80, 3) := by decide +kernel
theorem dX8_pass_25 : decode cX8_pass 25 = .ok (.aload_n 0, 1) := by decide +kernel
theorem dX8_pass_26 : decode cX8_pass 26 = .ok (.iload_n 1, 1) := by decide +kernel
theorem dX8_pass_27 : decode cX8_pass 27 = .ok (.invokevirtual 161, 3) := by decide +kernel
theorem dX8_pass_30 : decode cX8_pass 30 = .ok (.ireturn, 1) := by decide +kernel
theorem dX8_ranked_0 : decode cX8_ranked 0 = .ok (.iconst 0, 1) := by decide +kernel
theorem dX8_ranked_1 : decode cX8_ranked 1 = .ok (.istore_n 2, 1) := by decide +kernel
theorem dX8_ranked_2 : decode cX8_ranked 2 = .ok (.iload_n 2, 1) := by decide +kernel
theorem dX8_ranked_3 : decode cX8_ranked 3 = .ok (.aload_n 0, 1) := by decide +kernel
theorem dX8_ranked_4 : decode cX8_ranked 4 = .ok (.getfield 7, 3) := by decide +kernel
theorem dX8_ranked_7 : decode cX8_ranked 7 = .ok (.bipush 9, 2) := by decide +kernel
theorem dX8_ranked_9 : decode cX8_ranked 9 = .ok (.iaload, 1) := by decide +kernel
theorem dX8_ranked_10 : decode cX8_ranked 10 = .ok (.if_icmp .ge 85, 3) := by decide +kernel
theorem dX8_ranked_13 : decode cX8_ranked 13 = .ok (.iconst 0, 1) := by decide +kernel
theorem dX8_ranked_14 : decode cX8_ranked 14 = .ok (.istore_n 3, 1) := by decide +kernel
theorem dX8_ranked_15 : decode cX8_ranked 15 = .ok (.iconst 0, 1) := by decide +kernel
theorem dX8_ranked_16 : decode cX8_ranked 16 = .ok (.istore 4, 2) := by decide +kernel
theorem dX8_ranked_18 : decode cX8_ranked 18 = .ok (.iload 4, 2) := by decide +kernel
theorem dX8_ranked_20 : decode cX8_ranked 20 = .ok (.aload_n 0, 1) := by decide +kernel
theorem dX8_ranked_21 : decode cX8_ranked 21 = .ok (.getfield 7, 3) := by decide +kernel
theorem dX8_ranked_24 : decode cX8_ranked 24 = .ok (.bipush 9, 2) := by decide +kernel
theorem dX8_ranked_26 : decode cX8_ranked 26 = .ok (.iaload, 1) := by decide +kernel
theorem dX8_ranked_27 : decode cX8_ranked 27 = .ok (.if_icmp .ge 55, 3) := by decide +kernel
theorem dX8_ranked_30 : decode cX8_ranked 30 = .ok (.iload_n 3, 1) := by decide +kernel
theorem dX8_ranked_31 : decode cX8_ranked 31 = .ok (.aload_n 0, 1) := by decide +kernel
theorem dX8_ranked_32 : decode cX8_ranked 32 = .ok (.iload 4, 2) := by decide +kernel
theorem dX8_ranked_34 : decode cX8_ranked 34 = .ok (.iconst 2, 1) := by decide +kernel
theorem dX8_ranked_35 : decode cX8_ranked 35 = .ok (.invokevirtual 101, 3) := by decide +kernel
theorem dX8_ranked_38 : decode cX8_ranked 38 = .ok (.aload_n 0, 1) := by decide +kernel
theorem dX8_ranked_39 : decode cX8_ranked 39 = .ok (.iload_n 2, 1) := by decide +kernel
theorem dX8_ranked_40 : decode cX8_ranked 40 = .ok (.iconst 2, 1) := by decide +kernel
theorem dX8_ranked_41 : decode cX8_ranked 41 = .ok (.invokevirtual 101, 3) := by decide +kernel
theorem dX8_ranked_44 : decode cX8_ranked 44 = .ok (.if_icmp .lt 25, 3) := by decide +kernel
theorem dX8_ranked_47 : decode cX8_ranked 47 = .ok (.aload_n 0, 1) := by decide +kernel
theorem dX8_ranked_48 : decode cX8_ranked 48 = .ok (.iload 4, 2) := by decide +kernel
theorem dX8_ranked_50 : decode cX8_ranked 50 = .ok (.iconst 2, 1) := by decide +kernel
theorem dX8_ranked_51 : decode cX8_ranked 51 = .ok (.invokevirtual 101, 3) := by decide +kernel
theorem dX8_ranked_54 : decode cX8_ranked 54 = .ok (.aload_n 0, 1) := by decide +kernel
theorem dX8_ranked_55 : decode cX8_ranked 55 = .ok (.iload_n 2, 1) := by decide +kernel
theorem dX8_ranked_56 : decode cX8_ranked 56 = .ok (.iconst 2, 1) := by decide +kernel
theorem dX8_ranked_57 : decode cX8_ranked 57 = .ok (.invokevirtual 101, 3) := by decide +kernel
theorem dX8_ranked_60 : decode cX8_ranked 60 = .ok (.if_icmp .ne 13, 3) := by decide +kernel
theorem dX8_ranked_63 : decode cX8_ranked 63 = .ok (.iload 4, 2) := by decide +kernel
theorem dX8_ranked_65 : decode cX8_ranked 65 = .ok (.iload_n 2, 1) := by decide +kernel
theorem dX8_ranked_66 : decode cX8_ranked 66 = .ok (.if_icmp .ge 7, 3) := by decide +kernel
theorem dX8_ranked_69 : decode cX8_ranked 69 = .ok (.iconst 1, 1) := by decide +kernel
theorem dX8_ranked_70 : decode cX8_ranked 70 = .ok (.goto 4, 3) := by decide +kernel
theorem dX8_ranked_73 : decode cX8_ranked 73 = .ok (.iconst 0, 1) := by decide +kernel
theorem dX8_ranked_74 : decode cX8_ranked 74 = .ok (.iadd, 1) := by decide +kernel
theorem dX8_ranked_75 : decode cX8_ranked 75 = .ok (.istore_n 3, 1) := by decide +kernel
theorem dX8_ranked_76 : decode cX8_ranked 76 = .ok (.iinc 4 1, 3) := by decide +kernel
theorem dX8_ranked_79 : decode cX8_ranked 79 = .ok (.goto (-61), 3) := by decide +kernel
theorem dX8_ranked_82 : decode cX8_ranked 82 = .ok (.iload_n 3, 1) := by decide +kernel
theorem dX8_ranked_83 : decode cX8_ranked 83 = .ok (.iload_n 1, 1) := by decide +kernel
theorem dX8_ranked_84 : decode cX8_ranked 84 = .ok (.if_icmp .ne 5, 3) := by decide +kernel
theorem dX8_ranked_87 : decode cX8_ranked 87 = .ok (.iload_n 2, 1) := by decide +kernel
theorem dX8_ranked_88 : decode cX8_ranked 88 = .ok (.ireturn, 1) := by decide +kernel
theorem dX8_ranked_89 : decode cX8_ranked 89 = .ok (.iinc 2 1, 3) := by decide +kernel
theorem dX8_ranked_92 : decode cX8_ranked 92 = .ok (.goto (-90), 3) := by decide +kernel
theorem dX8_ranked_95 : decode cX8_ranked 95 = .ok (.iconst (-1), 1) := by decide +kernel
theorem dX8_ranked_96 : decode cX8_ranked 96 = .ok (.ireturn, 1) := by decide +kernel
theorem dX8_lose_0 : decode cX8_lose 0 = .ok (.aload_n 0, 1) := by decide +kernel
theorem dX8_lose_1 : decode cX8_lose 1 = .ok (.iconst 0, 1) := by decide +kernel
theorem dX8_lose_2 : decode cX8_lose 2 = .ok (.putfield 35, 3) := by decide +kernel
theorem dX8_lose_5 : decode cX8_lose 5 = .ok (.aload_n 0, 1) := by decide +kernel
theorem dX8_lose_6 : decode cX8_lose 6 = .ok (.getfield 7, 3) := by decide +kernel
theorem dX8_lose_9 : decode cX8_lose 9 = .ok (.bipush 9, 2) := by decide +kernel
theorem dX8_lose_11 : decode cX8_lose 11 = .ok (.iaload, 1) := by decide +kernel
theorem dX8_lose_12 : decode cX8_lose 12 = .ok (.ifCond .ne 9, 3) := by decide +kernel
theorem dX8_lose_15 : decode cX8_lose 15 = .ok (.aload_n 0, 1) := by decide +kernel
theorem dX8_lose_16 : decode cX8_lose 16 = .ok (.iconst 1, 1) := by decide +kernel
theorem dX8_lose_17 : decode cX8_lose 17 = .ok (.invokevirtual 73, 3) := by decide +kernel
theorem dX8_lose_20 : decode cX8_lose 20 = .ok (.ireturn, 1) := by decide +kernel
theorem dX8_lose_21 : decode cX8_lose 21 = .ok (.aload_n 0, 1) := by decide +kernel
theorem dX8_lose_22 : decode cX8_lose 22 = .ok (.invokevirtual 80, 3) := by decide +kernel
theorem dX8_lose_25 : decode cX8_lose 25 = .ok (.aload_n 0, 1) := by decide +kernel
theorem dX8_lose_26 : decode cX8_lose 26 = .ok (.aload_n 0, 1) := by decide +kernel
theorem dX8_lose_27 : decode cX8_lose 27 = .ok (.iconst 0, 1) := by decide +kernel
theorem dX8_lose_28 : decode cX8_lose 28 = .ok (.invokevirtual 164, 3) := by decide +kernel
theorem dX8_lose_31 : decode cX8_lose 31 = .ok (.invokevirtual 116, 3) := by decide +kernel
theorem dX8_lose_34 : decode cX8_lose 34 = .ok (.aload_n 0, 1) := by decide +kernel
theorem dX8_lose_35 : decode cX8_lose 35 = .ok (.getfield 7, 3) := by decide +kernel
theorem dX8_lose_38 : decode cX8_lose 38 = .ok (.iconst 5, 1) := by decide +kernel
theorem dX8_lose_39 : decode cX8_lose 39 = .ok (.dup2, 1) := by decide +kernel
theorem dX8_lose_40 : decode cX8_lose 40 = .ok (.iaload, 1) := by decide +kernel
theorem dX8_lose_41 : decode cX8_lose 41 = .ok (.iconst 1, 1) := by decide +kernel
theorem dX8_lose_42 : decode cX8_lose 42 = .ok (.iadd, 1) := by decide +kernel
theorem dX8_lose_43 : decode cX8_lose 43 = .ok (.iastore, 1) := by decide +kernel
theorem dX8_lose_44 : decode cX8_lose 44 = .ok (.aload_n 0, 1) := by decide +kernel
theorem dX8_lose_45 : decode cX8_lose 45 = .ok (.getfield 7, 3) := by decide +kernel
theorem dX8_lose_48 : decode cX8_lose 48 = .ok (.bipush 9, 2) := by decide +kernel
theorem dX8_lose_50 : decode cX8_lose 50 = .ok (.iaload, 1) := by decide +kernel
theorem dX8_lose_51 : decode cX8_lose 51 = .ok (.ireturn, 1) := by decide +kernel
theorem dX8_sweep_0 : decode cX8_sweep 0 = .ok (.aload_n 0, 1) := by decide +kernel
theorem dX8_sweep_1 : decode cX8_sweep 1 = .ok (.iconst 0, 1) := by decide +kernel
theorem dX8_sweep_2 : decode cX8_sweep 2 = .ok (.putfield 35, 3) := by decide +kernel
theorem dX8_sweep_5 : decode cX8_sweep 5 = .ok (.aload_n 0, 1) := by decide +kernel
theorem dX8_sweep_6 : decode cX8_sweep 6 = .ok (.invokevirtual 80, 3) := by decide +kernel
theorem dX8_sweep_9 : decode cX8_sweep 9 = .ok (.aload_n 0, 1) := by decide +kernel
theorem dX8_sweep_10 : decode cX8_sweep 10 = .ok (.invokevirtual 167, 3) := by decide +kernel
theorem dX8_sweep_13 : decode cX8_sweep 13 = .ok (.ireturn, 1) := by decide +kernel
theorem dX8_leastOf_0 : decode cX8_leastOf 0 = .ok (.iload_n 0, 1) := by decide +kernel
theorem dX8_leastOf_1 : decode cX8_leastOf 1 = .ok (.ifCond .eq 13, 3) := by decide +kernel
theorem dX8_leastOf_4 : decode cX8_leastOf 4 = .ok (.iload_n 0, 1) := by decide +kernel
theorem dX8_leastOf_5 : decode cX8_leastOf 5 = .ok (.iconst 4, 1) := by decide +kernel
theorem dX8_leastOf_6 : decode cX8_leastOf 6 = .ok (.if_icmp .eq 8, 3) := by decide +kernel
theorem dX8_leastOf_9 : decode cX8_leastOf 9 = .ok (.iload_n 0, 1) := by decide +kernel
theorem dX8_leastOf_10 : decode cX8_leastOf 10 = .ok (.iconst 5, 1) := by decide +kernel
theorem dX8_leastOf_11 : decode cX8_leastOf 11 = .ok (.if_icmp .ne 7, 3) := by decide +kernel
theorem dX8_leastOf_14 : decode cX8_leastOf 14 = .ok (.iconst 0, 1) := by decide +kernel
theorem dX8_leastOf_15 : decode cX8_leastOf 15 = .ok (.goto 4, 3) := by decide +kernel
theorem dX8_leastOf_18 : decode cX8_leastOf 18 = .ok (.iconst 1, 1) := by decide +kernel
theorem dX8_leastOf_19 : decode cX8_leastOf 19 = .ok (.ireturn, 1) := by decide +kernel
theorem dX8_mostOf_0 : decode cX8_mostOf 0 = .ok (.iload_n 0, 1) := by decide +kernel
theorem dX8_mostOf_1 : decode cX8_mostOf 1 = .ok (.ifCond .eq 8, 3) := by decide +kernel
theorem dX8_mostOf_4 : decode cX8_mostOf 4 = .ok (.iload_n 0, 1) := by decide +kernel
theorem dX8_mostOf_5 : decode cX8_mostOf 5 = .ok (.iconst 5, 1) := by decide +kernel
theorem dX8_mostOf_6 : decode cX8_mostOf 6 = .ok (.if_icmp .ne 7, 3) := by decide +kernel
theorem dX8_mostOf_9 : decode cX8_mostOf 9 = .ok (.iconst 1, 1) := by decide +kernel
theorem dX8_mostOf_10 : decode cX8_mostOf 10 = .ok (.goto 31, 3) := by decide +kernel
theorem dX8_mostOf_13 : decode cX8_mostOf 13 = .ok (.iload_n 0, 1) := by decide +kernel
theorem dX8_mostOf_14 : decode cX8_mostOf 14 = .ok (.iconst 2, 1) := by decide +kernel
theorem dX8_mostOf_15 : decode cX8_mostOf 15 = .ok (.if_icmp .ne 8, 3) := by decide +kernel
theorem dX8_mostOf_18 : decode cX8_mostOf 18 = .ok (.bipush 8, 2) := by decide +kernel
theorem dX8_mostOf_20 : decode cX8_mostOf 20 = .ok (.goto 21, 3) := by decide +kernel
theorem dX8_mostOf_23 : decode cX8_mostOf 23 = .ok (.iload_n 0, 1) := by decide +kernel
theorem dX8_mostOf_24 : decode cX8_mostOf 24 = .ok (.iconst 3, 1) := by decide +kernel
theorem dX8_mostOf_25 : decode cX8_mostOf 25 = .ok (.if_icmp .eq 9, 3) := by decide +kernel
theorem dX8_mostOf_28 : decode cX8_mostOf 28 = .ok (.iload_n 0, 1) := by decide +kernel
theorem dX8_mostOf_29 : decode cX8_mostOf 29 = .ok (.bipush 6, 2) := by decide +kernel
theorem dX8_mostOf_31 : decode cX8_mostOf 31 = .ok (.if_icmp .ne 8, 3) := by decide +kernel
theorem dX8_mostOf_34 : decode cX8_mostOf 34 = .ok (.bipush 20, 2) := by decide +kernel
theorem dX8_mostOf_36 : decode cX8_mostOf 36 = .ok (.goto 5, 3) := by decide +kernel
theorem dX8_mostOf_39 : decode cX8_mostOf 39 = .ok (.bipush 9, 2) := by decide +kernel
theorem dX8_mostOf_41 : decode cX8_mostOf 41 = .ok (.ireturn, 1) := by decide +kernel
theorem dX8_set_0 : decode cX8_set 0 = .ok (.aload_n 0, 1) := by decide +kernel
theorem dX8_set_1 : decode cX8_set 1 = .ok (.iconst 0, 1) := by decide +kernel
theorem dX8_set_2 : decode cX8_set 2 = .ok (.putfield 35, 3) := by decide +kernel
theorem dX8_set_5 : decode cX8_set 5 = .ok (.iload_n 1, 1) := by decide +kernel
theorem dX8_set_6 : decode cX8_set 6 = .ok (.iconst 0, 1) := by decide +kernel
theorem dX8_set_7 : decode cX8_set 7 = .ok (.bipush 6, 2) := by decide +kernel
theorem dX8_set_9 : decode cX8_set 9 = .ok (.invokestatic 39, 3) := by decide +kernel
theorem dX8_set_12 : decode cX8_set 12 = .ok (.ifCond .ne 9, 3) := by decide +kernel
theorem dX8_set_15 : decode cX8_set 15 = .ok (.aload_n 0, 1) := by decide +kernel
theorem dX8_set_16 : decode cX8_set 16 = .ok (.iconst 1, 1) := by decide +kernel
theorem dX8_set_17 : decode cX8_set 17 = .ok (.invokevirtual 73, 3) := by decide +kernel
theorem dX8_set_20 : decode cX8_set 20 = .ok (.ireturn, 1) := by decide +kernel
theorem dX8_set_21 : decode cX8_set 21 = .ok (.iload_n 2, 1) := by decide +kernel
theorem dX8_set_22 : decode cX8_set 22 = .ok (.iload_n 1, 1) := by decide +kernel
theorem dX8_set_23 : decode cX8_set 23 = .ok (.invokestatic 170, 3) := by decide +kernel
theorem dX8_set_26 : decode cX8_set 26 = .ok (.iload_n 1, 1) := by decide +kernel
theorem dX8_set_27 : decode cX8_set 27 = .ok (.invokestatic 173, 3) := by decide +kernel
theorem dX8_set_30 : decode cX8_set 30 = .ok (.invokestatic 39, 3) := by decide +kernel
theorem dX8_set_33 : decode cX8_set 33 = .ok (.ifCond .eq 13, 3) := by decide +kernel
theorem dX8_set_36 : decode cX8_set 36 = .ok (.iload_n 1, 1) := by decide +kernel
theorem dX8_set_37 : decode cX8_set 37 = .ok (.iconst 4, 1) := by decide +kernel
theorem dX8_set_38 : decode cX8_set 38 = .ok (.if_icmp .ne 14, 3) := by decide +kernel
theorem dX8_set_41 : decode cX8_set 41 = .ok (.iload_n 2, 1) := by decide +kernel
theorem dX8_set_42 : decode cX8_set 42 = .ok (.iconst 1, 1) := by decide +kernel
theorem dX8_set_43 : decode cX8_set 43 = .ok (.if_icmp .ne 9, 3) := by decide +kernel
theorem dX8_set_46 : decode cX8_set 46 = .ok (.aload_n 0, 1) := by decide +kernel
theorem dX8_set_47 : decode cX8_set 47 = .ok (.iconst 2, 1) := by decide +kernel
theorem dX8_set_48 : decode cX8_set 48 = .ok (.invokevirtual 73, 3) := by decide +kernel
theorem dX8_set_51 : decode cX8_set 51 = .ok (.ireturn, 1) := by decide +kernel
theorem dX8_set_52 : decode cX8_set 52 = .ok (.iload_n 1, 1) := by decide +kernel
theorem dX8_set_53 : decode cX8_set 53 = .ok (.ifCond .ne 18, 3) := by decide +kernel
theorem dX8_set_56 : decode cX8_set 56 = .ok (.aload_n 0, 1) := by decide +kernel
theorem dX8_set_57 : decode cX8_set 57 = .ok (.getfield 7, 3) := by decide +kernel
theorem dX8_set_60 : decode cX8_set 60 = .ok (.iconst 2, 1) := by decide +kernel
theorem dX8_set_61 : decode cX8_set 61 = .ok (.iaload, 1) := by decide +kernel
theorem dX8_set_62 : decode cX8_set 62 = .ok (.ifCond .le 9, 3) := by decide +kernel
theorem dX8_set_65 : decode cX8_set 65 = .ok (.aload_n 0, 1) := by decide +kernel
theorem dX8_set_66 : decode cX8_set 66 = .ok (.iconst 3, 1) := by decide +kernel
theorem dX8_set_67 : decode cX8_set 67 = .ok (.invokevirtual 73, 3) := by decide +kernel
theorem dX8_set_70 : decode cX8_set 70 = .ok (.ireturn, 1) := by decide +kernel
theorem dX8_set_71 : decode cX8_set 71 = .ok (.aload_n 0, 1) := by decide +kernel
theorem dX8_set_72 : decode cX8_set 72 = .ok (.invokevirtual 80, 3) := by decide +kernel
theorem dX8_set_75 : decode cX8_set 75 = .ok (.aload_n 0, 1) := by decide +kernel
theorem dX8_set_76 : decode cX8_set 76 = .ok (.getfield 7, 3) := by decide +kernel
theorem dX8_set_79 : decode cX8_set 79 = .ok (.bipush 10, 2) := by decide +kernel
theorem dX8_set_81 : decode cX8_set 81 = .ok (.iload_n 1, 1) := by decide +kernel
theorem dX8_set_82 : decode cX8_set 82 = .ok (.iadd, 1) := by decide +kernel
theorem dX8_set_83 : decode cX8_set 83 = .ok (.iaload, 1) := by decide +kernel
theorem dX8_set_84 : decode cX8_set 84 = .ok (.istore_n 3, 1) := by decide +kernel
theorem dX8_set_85 : decode cX8_set 85 = .ok (.aload_n 0, 1) := by decide +kernel
theorem dX8_set_86 : decode cX8_set 86 = .ok (.getfield 7, 3) := by decide +kernel
theorem dX8_set_89 : decode cX8_set 89 = .ok (.bipush 10, 2) := by decide +kernel
theorem dX8_set_91 : decode cX8_set 91 = .ok (.iload_n 1, 1) := by decide +kernel
theorem dX8_set_92 : decode cX8_set 92 = .ok (.iadd, 1) := by decide +kernel
theorem dX8_set_93 : decode cX8_set 93 = .ok (.iload_n 2, 1) := by decide +kernel
theorem dX8_set_94 : decode cX8_set 94 = .ok (.iastore, 1) := by decide +kernel
theorem dX8_set_95 : decode cX8_set 95 = .ok (.iload_n 3, 1) := by decide +kernel
theorem dX8_set_96 : decode cX8_set 96 = .ok (.ireturn, 1) := by decide +kernel
theorem dX8_append_0 : decode cX8_append 0 = .ok (.aload_n 0, 1) := by decide +kernel
theorem dX8_append_1 : decode cX8_append 1 = .ok (.iconst 0, 1) := by decide +kernel
theorem dX8_append_2 : decode cX8_append 2 = .ok (.putfield 35, 3) := by decide +kernel
theorem dX8_append_5 : decode cX8_append 5 = .ok (.iload_n 1, 1) := by decide +kernel
theorem dX8_append_6 : decode cX8_append 6 = .ok (.bipush 33, 2) := by decide +kernel
theorem dX8_append_8 : decode cX8_append 8 = .ok (.bipush 126, 2) := by decide +kernel
theorem dX8_append_10 : decode cX8_append 10 = .ok (.invokestatic 39, 3) := by decide +kernel
theorem dX8_append_13 : decode cX8_append 13 = .ok (.ifCond .ne 9, 3) := by decide +kernel
theorem dX8_append_16 : decode cX8_append 16 = .ok (.aload_n 0, 1) := by decide +kernel
theorem dX8_append_17 : decode cX8_append 17 = .ok (.iconst 1, 1) := by decide +kernel
theorem dX8_append_18 : decode cX8_append 18 = .ok (.invokevirtual 73, 3) := by decide +kernel
theorem dX8_append_21 : decode cX8_append 21 = .ok (.ireturn, 1) := by decide +kernel
theorem dX8_append_22 : decode cX8_append 22 = .ok (.aload_n 0, 1) := by decide +kernel
theorem dX8_append_23 : decode cX8_append 23 = .ok (.getfield 176, 3) := by decide +kernel
theorem dX8_append_26 : decode cX8_append 26 = .ok (.bipush 60, 2) := by decide +kernel
theorem dX8_append_28 : decode cX8_append 28 = .ok (.if_icmp .ne 9, 3) := by decide +kernel
theorem dX8_append_31 : decode cX8_append 31 = .ok (.aload_n 0, 1) := by decide +kernel
theorem dX8_append_32 : decode cX8_append 32 = .ok (.iconst 2, 1) := by decide +kernel
theorem dX8_append_33 : decode cX8_append 33 = .ok (.invokevirtual 73, 3) := by decide +kernel
theorem dX8_append_36 : decode cX8_append 36 = .ok (.ireturn, 1) := by decide +kernel
theorem dX8_append_37 : decode cX8_append 37 = .ok (.aload_n 0, 1) := by decide +kernel
theorem dX8_append_38 : decode cX8_append 38 = .ok (.getfield 22, 3) := by decide +kernel
theorem dX8_append_41 : decode cX8_append 41 = .ok (.aload_n 0, 1) := by decide +kernel
theorem dX8_append_42 : decode cX8_append 42 = .ok (.getfield 176, 3) := by decide +kernel
theorem dX8_append_45 : decode cX8_append 45 = .ok (.iload_n 1, 1) := by decide +kernel
theorem dX8_append_46 : decode cX8_append 46 = .ok (.iastore, 1) := by decide +kernel
theorem dX8_append_47 : decode cX8_append 47 = .ok (.aload_n 0, 1) := by decide +kernel
theorem dX8_append_48 : decode cX8_append 48 = .ok (.dup, 1) := by decide +kernel
theorem dX8_append_49 : decode cX8_append 49 = .ok (.getfield 176, 3) := by decide +kernel
theorem dX8_append_52 : decode cX8_append 52 = .ok (.iconst 1, 1) := by decide +kernel
theorem dX8_append_53 : decode cX8_append 53 = .ok (.iadd, 1) := by decide +kernel
theorem dX8_append_54 : decode cX8_append 54 = .ok (.putfield 176, 3) := by decide +kernel
theorem dX8_append_57 : decode cX8_append 57 = .ok (.aload_n 0, 1) := by decide +kernel
theorem dX8_append_58 : decode cX8_append 58 = .ok (.getfield 176, 3) := by decide +kernel
theorem dX8_append_61 : decode cX8_append 61 = .ok (.ireturn, 1) := by decide +kernel
theorem dX8_clearBuffer_0 : decode cX8_clearBuffer 0 = .ok (.aload_n 0, 1) := by decide +kernel
theorem dX8_clearBuffer_1 : decode cX8_clearBuffer 1 = .ok (.iconst 0, 1) := by decide +kernel
theorem dX8_clearBuffer_2 : decode cX8_clearBuffer 2 = .ok (.putfield 35, 3) := by decide +kernel
theorem dX8_clearBuffer_5 : decode cX8_clearBuffer 5 = .ok (.aload_n 0, 1) := by decide +kernel
theorem dX8_clearBuffer_6 : decode cX8_clearBuffer 6 = .ok (.getfield 176, 3) := by decide +kernel
theorem dX8_clearBuffer_9 : decode cX8_clearBuffer 9 = .ok (.istore_n 1, 1) := by decide +kernel
theorem dX8_clearBuffer_10 : decode cX8_clearBuffer 10 = .ok (.aload_n 0, 1) := by decide +kernel
theorem dX8_clearBuffer_11 : decode cX8_clearBuffer 11 = .ok (.iconst 0, 1) := by decide +kernel
theorem dX8_clearBuffer_12 : decode cX8_clearBuffer 12 = .ok (.putfield 176, 3) := by decide +kernel
theorem dX8_clearBuffer_15 : decode cX8_clearBuffer 15 = .ok (.iload_n 1, 1) := by decide +kernel
theorem dX8_clearBuffer_16 : decode cX8_clearBuffer 16 = .ok (.ireturn, 1) := by decide +kernel
theorem dX8_sees_0 : decode cX8_sees 0 = .ok (.aload_n 0, 1) := by decide +kernel
theorem dX8_sees_1 : decode cX8_sees 1 = .ok (.getfield 179, 3) := by decide +kernel
theorem dX8_sees_4 : decode cX8_sees 4 = .ok (.aload_n 0, 1) := by decide +kernel
theorem dX8_sees_5 : decode cX8_sees 5 = .ok (.getfield 176, 3) := by decide +kernel
theorem dX8_sees_8 : decode cX8_sees 8 = .ok (.if_icmp .ge 24, 3) := by decide +kernel
theorem dX8_sees_11 : decode cX8_sees 11 = .ok (.aload_n 0, 1) := by decide +kernel
theorem dX8_sees_12 : decode cX8_sees 12 = .ok (.getfield 22, 3) := by decide +kernel
theorem dX8_sees_15 : decode cX8_sees 15 = .ok (.aload_n 0, 1) := by decide +kernel
theorem dX8_sees_16 : decode cX8_sees 16 = .ok (.getfield 179, 3) := by decide +kernel
theorem dX8_sees_19 : decode cX8_sees 19 = .ok (.iaload, 1) := by decide +kernel
theorem dX8_sees_20 : decode cX8_sees 20 = .ok (.iload_n 1, 1) := by decide +kernel
theorem dX8_sees_21 : decode cX8_sees 21 = .ok (.iload_n 2, 1) := by decide +kernel
theorem dX8_sees_22 : decode cX8_sees 22 = .ok (.invokestatic 39, 3) := by decide +kernel
theorem dX8_sees_25 : decode cX8_sees 25 = .ok (.ifCond .eq 7, 3) := by decide +kernel
theorem dX8_sees_28 : decode cX8_sees 28 = .ok (.iconst 1, 1) := by decide +kernel
theorem dX8_sees_29 : decode cX8_sees 29 = .ok (.goto 4, 3) := by decide +kernel
theorem dX8_sees_32 : decode cX8_sees 32 = .ok (.iconst 0, 1) := by decide +kernel
theorem dX8_sees_33 : decode cX8_sees 33 = .ok (.ireturn, 1) := by decide +kernel
theorem dX8_takes_0 : decode cX8_takes 0 = .ok (.aload_n 0, 1) := by decide +kernel
theorem dX8_takes_1 : decode cX8_takes 1 = .ok (.iload_n 1, 1) := by decide +kernel
theorem dX8_takes_2 : decode cX8_takes 2 = .ok (.iload_n 1, 1) := by decide +kernel
theorem dX8_takes_3 : decode cX8_takes 3 = .ok (.invokevirtual 182, 3) := by decide +kernel
theorem dX8_takes_6 : decode cX8_takes 6 = .ok (.istore_n 2, 1) := by decide +kernel
theorem dX8_takes_7 : decode cX8_takes 7 = .ok (.aload_n 0, 1) := by decide +kernel
theorem dX8_takes_8 : decode cX8_takes 8 = .ok (.dup, 1) := by decide +kernel
theorem dX8_takes_9 : decode cX8_takes 9 = .ok (.getfield 179, 3) := by decide +kernel
theorem dX8_takes_12 : decode cX8_takes 12 = .ok (.iload_n 2, 1) := by decide +kernel
theorem dX8_takes_13 : decode cX8_takes 13 = .ok (.ifCond .eq 7, 3) := by decide +kernel
theorem dX8_takes_16 : decode cX8_takes 16 = .ok (.iconst 1, 1) := by decide +kernel
theorem dX8_takes_17 : decode cX8_takes 17 = .ok (.goto 4, 3) := by decide +kernel
theorem dX8_takes_20 : decode cX8_takes 20 = .ok (.iconst 0, 1) := by decide +kernel
theorem dX8_takes_21 : decode cX8_takes 21 = .ok (.iadd, 1) := by decide +kernel
theorem dX8_takes_22 : decode cX8_takes 22 = .ok (.putfield 179, 3) := by decide +kernel
theorem dX8_takes_25 : decode cX8_takes 25 = .ok (.iload_n 2, 1) := by decide +kernel
theorem dX8_takes_26 : decode cX8_takes 26 = .ok (.ireturn, 1) := by decide +kernel
theorem dX8_digit_0 : decode cX8_digit 0 = .ok (.aload_n 0, 1) := by decide +kernel
theorem dX8_digit_1 : decode cX8_digit 1 = .ok (.bipush 48, 2) := by decide +kernel
theorem dX8_digit_3 : decode cX8_digit 3 = .ok (.iload_n 2, 1) := by decide +kernel
theorem dX8_digit_4 : decode cX8_digit 4 = .ok (.iadd, 1) := by decide +kernel
theorem dX8_digit_5 : decode cX8_digit 5 = .ok (.bipush 48, 2) := by decide +kernel
theorem dX8_digit_7 : decode cX8_digit 7 = .ok (.iload_n 3, 1) := by decide +kernel
theorem dX8_digit_8 : decode cX8_digit 8 = .ok (.iadd, 1) := by decide +kernel
theorem dX8_digit_9 : decode cX8_digit 9 = .ok (.invokevirtual 182, 3) := by decide +kernel
theorem dX8_digit_12 : decode cX8_digit 12 = .ok (.ifCond .ne 5, 3) := by decide +kernel
theorem dX8_digit_15 : decode cX8_digit 15 = .ok (.iconst 0, 1) := by decide +kernel
theorem dX8_digit_16 : decode cX8_digit 16 = .ok (.ireturn, 1) := by decide +kernel
theorem dX8_digit_17 : decode cX8_digit 17 = .ok (.aload_n 0, 1) := by decide +kernel
theorem dX8_digit_18 : decode cX8_digit 18 = .ok (.getfield 25, 3) := by decide +kernel
theorem dX8_digit_21 : decode cX8_digit 21 = .ok (.iload_n 1, 1) := by decide +kernel
theorem dX8_digit_22 : decode cX8_digit 22 = .ok (.aload_n 0, 1) := by decide +kernel
theorem dX8_digit_23 : decode cX8_digit 23 = .ok (.getfield 22, 3) := by decide +kernel
theorem dX8_digit_26 : decode cX8_digit 26 = .ok (.aload_n 0, 1) := by decide +kernel
theorem dX8_digit_27 : decode cX8_digit 27 = .ok (.getfield 179, 3) := by decide +kernel
theorem dX8_digit_30 : decode cX8_digit 30 = .ok (.iaload, 1) := by decide +kernel
theorem dX8_digit_31 : decode cX8_digit 31 = .ok (.bipush 48, 2) := by decide +kernel
theorem dX8_digit_33 : decode cX8_digit 33 = .ok (.isub, 1) := by decide +kernel
theorem dX8_digit_34 : decode cX8_digit 34 = .ok (.iastore, 1) := by decide +kernel
theorem dX8_digit_35 : decode cX8_digit 35 = .ok (.aload_n 0, 1) := by decide +kernel
theorem dX8_digit_36 : decode cX8_digit 36 = .ok (.dup, 1) := by decide +kernel
theorem dX8_digit_37 : decode cX8_digit 37 = .ok (.getfield 179, 3) := by decide +kernel
theorem dX8_digit_40 : decode cX8_digit 40 = .ok (.iconst 1, 1) := by decide +kernel
theorem dX8_digit_41 : decode cX8_digit 41 = .ok (.iadd, 1) := by decide +kernel
theorem dX8_digit_42 : decode cX8_digit 42 = .ok (.putfield 179, 3) := by decide +kernel
theorem dX8_digit_45 : decode cX8_digit 45 = .ok (.iconst 1, 1) := by decide +kernel
theorem dX8_digit_46 : decode cX8_digit 46 = .ok (.ireturn, 1) := by decide +kernel
theorem dX8_number_0 : decode cX8_number 0 = .ok (.aload_n 0, 1) := by decide +kernel
theorem dX8_number_1 : decode cX8_number 1 = .ok (.iload_n 1, 1) := by decide +kernel
theorem dX8_number_2 : decode cX8_number 2 = .ok (.iload_n 2, 1) := by decide +kernel
theorem dX8_number_3 : decode cX8_number 3 = .ok (.bipush 9, 2) := by decide +kernel
theorem dX8_number_5 : decode cX8_number 5 = .ok (.invokevirtual 185, 3) := by decide +kernel
theorem dX8_number_8 : decode cX8_number 8 = .ok (.ifCond .ne 5, 3) := by decide +kernel
theorem dX8_number_11 : decode cX8_number 11 = .ok (.iconst 0, 1) := by decide +kernel
theorem dX8_number_12 : decode cX8_number 12 = .ok (.ireturn, 1) := by decide +kernel
theorem dX8_number_13 : decode cX8_number 13 = .ok (.aload_n 0, 1) := by decide +kernel
theorem dX8_number_14 : decode cX8_number 14 = .ok (.getfield 25, 3) := by decide +kernel
theorem dX8_number_17 : decode cX8_number 17 = .ok (.iload_n 1, 1) := by decide +kernel
theorem dX8_number_18 : decode cX8_number 18 = .ok (.iaload, 1) := by decide +kernel
theorem dX8_number_19 : decode cX8_number 19 = .ok (.ifCond .le 52, 3) := by decide +kernel
theorem dX8_number_22 : decode cX8_number 22 = .ok (.aload_n 0, 1) := by decide +kernel
theorem dX8_number_23 : decode cX8_number 23 = .ok (.bipush 48, 2) := by decide +kernel
theorem dX8_number_25 : decode cX8_number 25 = .ok (.bipush 57, 2) := by decide +kernel
theorem dX8_number_27 : decode cX8_number 27 = .ok (.invokevirtual 182, 3) := by decide +kernel
theorem dX8_number_30 : decode cX8_number 30 = .ok (.ifCond .eq 41, 3) := by decide +kernel
theorem dX8_number_33 : decode cX8_number 33 = .ok (.aload_n 0, 1) := by decide +kernel
theorem dX8_number_34 : decode cX8_number 34 = .ok (.getfield 25, 3) := by decide +kernel
theorem dX8_number_37 : decode cX8_number 37 = .ok (.iload_n 1, 1) := by decide +kernel
theorem dX8_number_38 : decode cX8_number 38 = .ok (.bipush 10, 2) := by decide +kernel
theorem dX8_number_40 : decode cX8_number 40 = .ok (.aload_n 0, 1) := by decide +kernel
theorem dX8_number_41 : decode cX8_number 41 = .ok (.getfield 25, 3) := by decide +kernel
theorem dX8_number_44 : decode cX8_number 44 = .ok (.iload_n 1, 1) := by decide +kernel
theorem dX8_number_45 : decode cX8_number 45 = .ok (.iaload, 1) := by decide +kernel
theorem dX8_number_46 : decode cX8_number 46 = .ok (.imul, 1) := by decide +kernel
theorem dX8_number_47 : decode cX8_number 47 = .ok (.aload_n 0, 1) := by decide +kernel
theorem dX8_number_48 : decode cX8_number 48 = .ok (.getfield 22, 3) := by decide +kernel
theorem dX8_number_51 : decode cX8_number 51 = .ok (.aload_n 0, 1) := by decide +kernel
theorem dX8_number_52 : decode cX8_number 52 = .ok (.getfield 179, 3) := by decide +kernel
theorem dX8_number_55 : decode cX8_number 55 = .ok (.iaload, 1) := by decide +kernel
theorem dX8_number_56 : decode cX8_number 56 = .ok (.iadd, 1) := by decide +kernel
theorem dX8_number_57 : decode cX8_number 57 = .ok (.bipush 48, 2) := by decide +kernel
theorem dX8_number_59 : decode cX8_number 59 = .ok (.isub, 1) := by decide +kernel
theorem dX8_number_60 : decode cX8_number 60 = .ok (.iastore, 1) := by decide +kernel
theorem dX8_number_61 : decode cX8_number 61 = .ok (.aload_n 0, 1) := by decide +kernel
theorem dX8_number_62 : decode cX8_number 62 = .ok (.dup, 1) := by decide +kernel
theorem dX8_number_63 : decode cX8_number 63 = .ok (.getfield 179, 3) := by decide +kernel
theorem dX8_number_66 : decode cX8_number 66 = .ok (.iconst 1, 1) := by decide +kernel
theorem dX8_number_67 : decode cX8_number 67 = .ok (.iadd, 1) := by decide +kernel
theorem dX8_number_68 : decode cX8_number 68 = .ok (.putfield 179, 3) := by decide +kernel
theorem dX8_number_71 : decode cX8_number 71 = .ok (.iconst 1, 1) := by decide +kernel
theorem dX8_number_72 : decode cX8_number 72 = .ok (.ireturn, 1) := by decide +kernel
theorem dX8_reads_0 : decode cX8_reads 0 = .ok (.iload_n 1, 1) := by decide +kernel
theorem dX8_reads_1 : decode cX8_reads 1 = .ok (.lookupswitch 102 #[(99, 87), (100, 87), (116, 95), (119, 43)], 43) := by decide +kernel
theorem dX8_reads_44 : decode cX8_reads 44 = .ok (.aload_n 0, 1) := by decide +kernel
theorem dX8_reads_45 : decode cX8_reads 45 = .ok (.iconst 0, 1) := by decide +kernel
theorem dX8_reads_46 : decode cX8_reads 46 = .ok (.iconst 0, 1) := by decide +kernel
theorem dX8_reads_47 : decode cX8_reads 47 = .ok (.iconst 3, 1) := by decide +kernel
theorem dX8_reads_48 : decode cX8_reads 48 = .ok (.invokevirtual 185, 3) := by decide +kernel
theorem dX8_reads_51 : decode cX8_reads 51 = .ok (.ifCond .eq 35, 3) := by decide +kernel
theorem dX8_reads_54 : decode cX8_reads 54 = .ok (.aload_n 0, 1) := by decide +kernel
theorem dX8_reads_55 : decode cX8_reads 55 = .ok (.iconst 1, 1) := by decide +kernel
theorem dX8_reads_56 : decode cX8_reads 56 = .ok (.iconst 0, 1) := by decide +kernel
theorem dX8_reads_57 : decode cX8_reads 57 = .ok (.iconst 3, 1) := by decide +kernel
theorem dX8_reads_58 : decode cX8_reads 58 = .ok (.invokevirtual 185, 3) := by decide +kernel
theorem dX8_reads_61 : decode cX8_reads 61 = .ok (.ifCond .eq 25, 3) := by decide +kernel
theorem dX8_reads_64 : decode cX8_reads 64 = .ok (.aload_n 0, 1) := by decide +kernel
theorem dX8_reads_65 : decode cX8_reads 65 = .ok (.bipush 61, 2) := by decide +kernel
theorem dX8_reads_67 : decode cX8_reads 67 = .ok (.invokevirtual 188, 3) := by decide +kernel
theorem dX8_reads_70 : decode cX8_reads 70 = .ok (.ifCond .eq 16, 3) := by decide +kernel
theorem dX8_reads_73 : decode cX8_reads 73 = .ok (.aload_n 0, 1) := by decide +kernel
theorem dX8_reads_74 : decode cX8_reads 74 = .ok (.iconst 2, 1) := by decide +kernel
theorem dX8_reads_75 : decode cX8_reads 75 = .ok (.iconst 0, 1) := by decide +kernel
theorem dX8_reads_76 : decode cX8_reads 76 = .ok (.invokevirtual 191, 3) := by decide +kernel
theorem dX8_reads_79 : decode cX8_reads 79 = .ok (.ifCond .eq 7, 3) := by decide +kernel
theorem dX8_reads_82 : decode cX8_reads 82 = .ok (.iconst 1, 1) := by decide +kernel
theorem dX8_reads_83 : decode cX8_reads 83 = .ok (.goto 4, 3) := by decide +kernel
theorem dX8_reads_86 : decode cX8_reads 86 = .ok (.iconst 0, 1) := by decide +kernel
theorem dX8_reads_87 : decode cX8_reads 87 = .ok (.ireturn, 1) := by decide +kernel
theorem dX8_reads_88 : decode cX8_reads 88 = .ok (.aload_n 0, 1) := by decide +kernel
theorem dX8_reads_89 : decode cX8_reads 89 = .ok (.iconst 0, 1) := by decide +kernel
theorem dX8_reads_90 : decode cX8_reads 90 = .ok (.iconst 0, 1) := by decide +kernel
theorem dX8_reads_91 : decode cX8_reads 91 = .ok (.iconst 3, 1) := by decide +kernel
theorem dX8_reads_92 : decode cX8_reads 92 = .ok (.invokevirtual 185, 3) := by decide +kernel
theorem dX8_reads_95 : decode cX8_reads 95 = .ok (.ireturn, 1) := by decide +kernel
theorem dX8_reads_96 : decode cX8_reads 96 = .ok (.aload_n 0, 1) := by decide +kernel
theorem dX8_reads_97 : decode cX8_reads 97 = .ok (.iconst 0, 1) := by decide +kernel
theorem dX8_reads_98 : decode cX8_reads 98 = .ok (.iconst 1, 1) := by decide +kernel
theorem dX8_reads_99 : decode cX8_reads 99 = .ok (.invokevirtual 191, 3) := by decide +kernel
theorem dX8_reads_102 : decode cX8_reads 102 = .ok (.ireturn, 1) := by decide +kernel
theorem dX8_reads_103 : decode cX8_reads 103 = .ok (.iconst 1, 1) := by decide +kernel
theorem dX8_reads_104 : decode cX8_reads 104 = .ok (.ireturn, 1) := by decide +kernel
theorem dX8_isKind_0 : decode cX8_isKind 0 = .ok (.iload_n 0, 1) := by decide +kernel
theorem dX8_isKind_1 : decode cX8_isKind 1 = .ok (.bipush 98, 2) := by decide +kernel
theorem dX8_isKind_3 : decode cX8_isKind 3 = .ok (.if_icmp .eq 33, 3) := by decide +kernel
theorem dX8_isKind_6 : decode cX8_isKind 6 = .ok (.iload_n 0, 1) := by decide +kernel
theorem dX8_isKind_7 : decode cX8_isKind 7 = .ok (.bipush 119, 2) := by decide +kernel
theorem dX8_isKind_9 : decode cX8_isKind 9 = .ok (.if_icmp .eq 27, 3) := by decide +kernel
theorem dX8_isKind_12 : decode cX8_isKind 12 = .ok (.iload_n 0, 1) := by decide +kernel
theorem dX8_isKind_13 : decode cX8_isKind 13 = .ok (.bipush 99, 2) := by decide +kernel
theorem dX8_isKind_15 : decode cX8_isKind 15 = .ok (.if_icmp .eq 21, 3) := by decide +kernel
theorem dX8_isKind_18 : decode cX8_isKind 18 = .ok (.iload_n 0, 1) := by decide +kernel
theorem dX8_isKind_19 : decode cX8_isKind 19 = .ok (.bipush 100, 2) := by decide +kernel
theorem dX8_isKind_21 : decode cX8_isKind 21 = .ok (.if_icmp .eq 15, 3) := by decide +kernel
theorem dX8_isKind_24 : decode cX8_isKind 24 = .ok (.iload_n 0, 1) := by decide +kernel
theorem dX8_isKind_25 : decode cX8_isKind 25 = .ok (.bipush 116, 2) := by decide +kernel
theorem dX8_isKind_27 : decode cX8_isKind 27 = .ok (.if_icmp .eq 9, 3) := by decide +kernel
theorem dX8_isKind_30 : decode cX8_isKind 30 = .ok (.iload_n 0, 1) := by decide +kernel
theorem dX8_isKind_31 : decode cX8_isKind 31 = .ok (.bipush 115, 2) := by decide +kernel
theorem dX8_isKind_33 : decode cX8_isKind 33 = .ok (.if_icmp .ne 7, 3) := by decide +kernel
theorem dX8_isKind_36 : decode cX8_isKind 36 = .ok (.iconst 1, 1) := by decide +kernel
theorem dX8_isKind_37 : decode cX8_isKind 37 = .ok (.goto 4, 3) := by decide +kernel
theorem dX8_isKind_40 : decode cX8_isKind 40 = .ok (.iconst 0, 1) := by decide +kernel
theorem dX8_isKind_41 : decode cX8_isKind 41 = .ok (.ireturn, 1) := by decide +kernel
theorem dX8_order_0 : decode cX8_order 0 = .ok (.aload_n 0, 1) := by decide +kernel
theorem dX8_order_1 : decode cX8_order 1 = .ok (.getfield 179, 3) := by decide +kernel
theorem dX8_order_4 : decode cX8_order 4 = .ok (.aload_n 0, 1) := by decide +kernel
theorem dX8_order_5 : decode cX8_order 5 = .ok (.getfield 176, 3) := by decide +kernel
theorem dX8_order_8 : decode cX8_order 8 = .ok (.if_icmp .ge 15, 3) := by decide +kernel
theorem dX8_order_11 : decode cX8_order 11 = .ok (.aload_n 0, 1) := by decide +kernel
theorem dX8_order_12 : decode cX8_order 12 = .ok (.getfield 22, 3) := by decide +kernel
theorem dX8_order_15 : decode cX8_order 15 = .ok (.aload_n 0, 1) := by decide +kernel
theorem dX8_order_16 : decode cX8_order 16 = .ok (.getfield 179, 3) := by decide +kernel
theorem dX8_order_19 : decode cX8_order 19 = .ok (.iaload, 1) := by decide +kernel
theorem dX8_order_20 : decode cX8_order 20 = .ok (.goto 4, 3) := by decide +kernel
theorem dX8_order_23 : decode cX8_order 23 = .ok (.iconst 0, 1) := by decide +kernel
theorem dX8_order_24 : decode cX8_order 24 = .ok (.istore_n 1, 1) := by decide +kernel
theorem dX8_order_25 : decode cX8_order 25 = .ok (.iload_n 1, 1) := by decide +kernel
theorem dX8_order_26 : decode cX8_order 26 = .ok (.invokestatic 194, 3) := by decide +kernel
theorem dX8_order_29 : decode cX8_order 29 = .ok (.ifCond .ne 5, 3) := by decide +kernel
theorem dX8_order_32 : decode cX8_order 32 = .ok (.iconst 0, 1) := by decide +kernel
theorem dX8_order_33 : decode cX8_order 33 = .ok (.ireturn, 1) := by decide +kernel
theorem dX8_order_34 : decode cX8_order 34 = .ok (.aload_n 0, 1) := by decide +kernel
theorem dX8_order_35 : decode cX8_order 35 = .ok (.dup, 1) := by decide +kernel
theorem dX8_order_36 : decode cX8_order 36 = .ok (.getfield 179, 3) := by decide +kernel
theorem dX8_order_39 : decode cX8_order 39 = .ok (.iconst 1, 1) := by decide +kernel
theorem dX8_order_40 : decode cX8_order 40 = .ok (.iadd, 1) := by decide +kernel
theorem dX8_order_41 : decode cX8_order 41 = .ok (.putfield 179, 3) := by decide +kernel
theorem dX8_order_44 : decode cX8_order 44 = .ok (.aload_n 0, 1) := by decide +kernel
theorem dX8_order_45 : decode cX8_order 45 = .ok (.iload_n 1, 1) := by decide +kernel
theorem dX8_order_46 : decode cX8_order 46 = .ok (.invokevirtual 197, 3) := by decide +kernel
theorem dX8_order_49 : decode cX8_order 49 = .ok (.ifCond .eq 7, 3) := by decide +kernel
theorem dX8_order_52 : decode cX8_order 52 = .ok (.iload_n 1, 1) := by decide +kernel
theorem dX8_order_53 : decode cX8_order 53 = .ok (.goto 4, 3) := by decide +kernel
theorem dX8_order_56 : decode cX8_order 56 = .ok (.iconst 0, 1) := by decide +kernel
theorem dX8_order_57 : decode cX8_order 57 = .ok (.ireturn, 1) := by decide +kernel
theorem dX8_isWell_0 : decode cX8_isWell 0 = .ok (.aload_n 0, 1) := by decide +kernel
theorem dX8_isWell_1 : decode cX8_isWell 1 = .ok (.iconst 0, 1) := by decide +kernel
theorem dX8_isWell_2 : decode cX8_isWell 2 = .ok (.putfield 179, 3) := by decide +kernel
theorem dX8_isWell_5 : decode cX8_isWell 5 = .ok (.aload_n 0, 1) := by decide +kernel
theorem dX8_isWell_6 : decode cX8_isWell 6 = .ok (.invokevirtual 200, 3) := by decide +kernel
theorem dX8_isWell_9 : decode cX8_isWell 9 = .ok (.ifCond .eq 7, 3) := by decide +kernel
theorem dX8_isWell_12 : decode cX8_isWell 12 = .ok (.iconst 1, 1) := by decide +kernel
theorem dX8_isWell_13 : decode cX8_isWell 13 = .ok (.goto 4, 3) := by decide +kernel
theorem dX8_isWell_16 : decode cX8_isWell 16 = .ok (.iconst 0, 1) := by decide +kernel
theorem dX8_isWell_17 : decode cX8_isWell 17 = .ok (.istore_n 1, 1) := by decide +kernel
theorem dX8_isWell_18 : decode cX8_isWell 18 = .ok (.iload_n 1, 1) := by decide +kernel
theorem dX8_isWell_19 : decode cX8_isWell 19 = .ok (.ifCond .eq 39, 3) := by decide +kernel
theorem dX8_isWell_22 : decode cX8_isWell 22 = .ok (.aload_n 0, 1) := by decide +kernel
theorem dX8_isWell_23 : decode cX8_isWell 23 = .ok (.getfield 179, 3) := by decide +kernel
theorem dX8_isWell_26 : decode cX8_isWell 26 = .ok (.aload_n 0, 1) := by decide +kernel
theorem dX8_isWell_27 : decode cX8_isWell 27 = .ok (.getfield 176, 3) := by decide +kernel
theorem dX8_isWell_30 : decode cX8_isWell 30 = .ok (.if_icmp .ge 28, 3) := by decide +kernel
theorem dX8_isWell_33 : decode cX8_isWell 33 = .ok (.aload_n 0, 1) := by decide +kernel
theorem dX8_isWell_34 : decode cX8_isWell 34 = .ok (.bipush 59, 2) := by decide +kernel
theorem dX8_isWell_36 : decode cX8_isWell 36 = .ok (.invokevirtual 188, 3) := by decide +kernel
theorem dX8_isWell_39 : decode cX8_isWell 39 = .ok (.ifCond .eq 14, 3) := by decide +kernel
theorem dX8_isWell_42 : decode cX8_isWell 42 = .ok (.aload_n 0, 1) := by decide +kernel
theorem dX8_isWell_43 : decode cX8_isWell 43 = .ok (.invokevirtual 200, 3) := by decide +kernel
theorem dX8_isWell_46 : decode cX8_isWell 46 = .ok (.ifCond .eq 7, 3) := by decide +kernel
theorem dX8_isWell_49 : decode cX8_isWell 49 = .ok (.iconst 1, 1) := by decide +kernel
theorem dX8_isWell_50 : decode cX8_isWell 50 = .ok (.goto 4, 3) := by decide +kernel
theorem dX8_isWell_53 : decode cX8_isWell 53 = .ok (.iconst 0, 1) := by decide +kernel
theorem dX8_isWell_54 : decode cX8_isWell 54 = .ok (.istore_n 1, 1) := by decide +kernel
theorem dX8_isWell_55 : decode cX8_isWell 55 = .ok (.goto (-37), 3) := by decide +kernel
theorem dX8_isWell_58 : decode cX8_isWell 58 = .ok (.iload_n 1, 1) := by decide +kernel
theorem dX8_isWell_59 : decode cX8_isWell 59 = .ok (.ireturn, 1) := by decide +kernel
theorem dX8_firstError_0 : decode cX8_firstError 0 = .ok (.aload_n 0, 1) := by decide +kernel
theorem dX8_firstError_1 : decode cX8_firstError 1 = .ok (.iconst 0, 1) := by decide +kernel
theorem dX8_firstError_2 : decode cX8_firstError 2 = .ok (.putfield 35, 3) := by decide +kernel
theorem dX8_firstError_5 : decode cX8_firstError 5 = .ok (.aload_n 0, 1) := by decide +kernel
theorem dX8_firstError_6 : decode cX8_firstError 6 = .ok (.invokevirtual 203, 3) := by decide +kernel
theorem dX8_firstError_9 : decode cX8_firstError 9 = .ok (.ifCond .eq 10, 3) := by decide +kernel
theorem dX8_firstError_12 : decode cX8_firstError 12 = .ok (.aload_n 0, 1) := by decide +kernel
theorem dX8_firstError_13 : decode cX8_firstError 13 = .ok (.getfield 176, 3) := by decide +kernel
theorem dX8_firstError_16 : decode cX8_firstError 16 = .ok (.goto 7, 3) := by decide +kernel
theorem dX8_firstError_19 : decode cX8_firstError 19 = .ok (.aload_n 0, 1) := by decide +kernel
theorem dX8_firstError_20 : decode cX8_firstError 20 = .ok (.getfield 179, 3) := by decide +kernel
theorem dX8_firstError_23 : decode cX8_firstError 23 = .ok (.ireturn, 1) := by decide +kernel
theorem dX8_does_0 : decode cX8_does 0 = .ok (.iload_n 1, 1) := by decide +kernel
theorem dX8_does_1 : decode cX8_does 1 = .ok (.lookupswitch 112 #[(98, 51), (99, 79), (100, 90), (116, 101), (119, 56)], 51) := by decide +kernel
theorem dX8_does_52 : decode cX8_does 52 = .ok (.aload_n 0, 1) := by decide +kernel
theorem dX8_does_53 : decode cX8_does 53 = .ok (.invokevirtual 148, 3) := by decide +kernel
theorem dX8_does_56 : decode cX8_does 56 = .ok (.ireturn, 1) := by decide +kernel
theorem dX8_does_57 : decode cX8_does 57 = .ok (.aload_n 0, 1) := by decide +kernel
theorem dX8_does_58 : decode cX8_does 58 = .ok (.aload_n 0, 1) := by decide +kernel
theorem dX8_does_59 : decode cX8_does 59 = .ok (.getfield 25, 3) := by decide +kernel
theorem dX8_does_62 : decode cX8_does 62 = .ok (.iconst 0, 1) := by decide +kernel
theorem dX8_does_63 : decode cX8_does 63 = .ok (.iaload, 1) := by decide +kernel
theorem dX8_does_64 : decode cX8_does 64 = .ok (.aload_n 0, 1) := by decide +kernel
theorem dX8_does_65 : decode cX8_does 65 = .ok (.getfield 25, 3) := by decide +kernel
theorem dX8_does_68 : decode cX8_does 68 = .ok (.iconst 1, 1) := by decide +kernel
theorem dX8_does_69 : decode cX8_does 69 = .ok (.iaload, 1) := by decide +kernel
theorem dX8_does_70 : decode cX8_does 70 = .ok (.aload_n 0, 1) := by decide +kernel
theorem dX8_does_71 : decode cX8_does 71 = .ok (.getfield 25, 3) := by decide +kernel
theorem dX8_does_74 : decode cX8_does 74 = .ok (.iconst 2, 1) := by decide +kernel
theorem dX8_does_75 : decode cX8_does 75 = .ok (.iaload, 1) := by decide +kernel
theorem dX8_does_76 : decode cX8_does 76 = .ok (.invokevirtual 151, 3) := by decide +kernel
theorem dX8_does_79 : decode cX8_does 79 = .ok (.ireturn, 1) := by decide +kernel
theorem dX8_does_80 : decode cX8_does 80 = .ok (.aload_n 0, 1) := by decide +kernel
theorem dX8_does_81 : decode cX8_does 81 = .ok (.aload_n 0, 1) := by decide +kernel
theorem dX8_does_82 : decode cX8_does 82 = .ok (.getfield 25, 3) := by decide +kernel
theorem dX8_does_85 : decode cX8_does 85 = .ok (.iconst 0, 1) := by decide +kernel
theorem dX8_does_86 : decode cX8_does 86 = .ok (.iaload, 1) := by decide +kernel
theorem dX8_does_87 : decode cX8_does 87 = .ok (.invokevirtual 155, 3) := by decide +kernel
theorem dX8_does_90 : decode cX8_does 90 = .ok (.ireturn, 1) := by decide +kernel
theorem dX8_does_91 : decode cX8_does 91 = .ok (.aload_n 0, 1) := by decide +kernel
theorem dX8_does_92 : decode cX8_does 92 = .ok (.aload_n 0, 1) := by decide +kernel
theorem dX8_does_93 : decode cX8_does 93 = .ok (.getfield 25, 3) := by decide +kernel
theorem dX8_does_96 : decode cX8_does 96 = .ok (.iconst 0, 1) := by decide +kernel
theorem dX8_does_97 : decode cX8_does 97 = .ok (.iaload, 1) := by decide +kernel
theorem dX8_does_98 : decode cX8_does 98 = .ok (.invokevirtual 158, 3) := by decide +kernel
theorem dX8_does_101 : decode cX8_does 101 = .ok (.ireturn, 1) := by decide +kernel
theorem dX8_does_102 : decode cX8_does 102 = .ok (.aload_n 0, 1) := by decide +kernel
theorem dX8_does_103 : decode cX8_does 103 = .ok (.aload_n 0, 1) := by decide +kernel
theorem dX8_does_104 : decode cX8_does 104 = .ok (.getfield 25, 3) := by decide +kernel
theorem dX8_does_107 : decode cX8_does 107 = .ok (.iconst 0, 1) := by decide +kernel
theorem dX8_does_108 : decode cX8_does 108 = .ok (.iaload, 1) := by decide +kernel
theorem dX8_does_109 : decode cX8_does 109 = .ok (.invokevirtual 161, 3) := by decide +kernel
theorem dX8_does_112 : decode cX8_does 112 = .ok (.ireturn, 1) := by decide +kernel
theorem dX8_does_113 : decode cX8_does 113 = .ok (.aload_n 0, 1) := by decide +kernel
theorem dX8_does_114 : decode cX8_does 114 = .ok (.invokevirtual 167, 3) := by decide +kernel
theorem dX8_does_117 : decode cX8_does 117 = .ok (.ireturn, 1) := by decide +kernel
theorem dX8_obey_0 : decode cX8_obey 0 = .ok (.aload_n 0, 1) := by decide +kernel
theorem dX8_obey_1 : decode cX8_obey 1 = .ok (.iconst 0, 1) := by decide +kernel
theorem dX8_obey_2 : decode cX8_obey 2 = .ok (.putfield 35, 3) := by decide +kernel
theorem dX8_obey_5 : decode cX8_obey 5 = .ok (.aload_n 0, 1) := by decide +kernel
theorem dX8_obey_6 : decode cX8_obey 6 = .ok (.invokevirtual 203, 3) := by decide +kernel
theorem dX8_obey_9 : decode cX8_obey 9 = .ok (.ifCond .ne 9, 3) := by decide +kernel
theorem dX8_obey_12 : decode cX8_obey 12 = .ok (.aload_n 0, 1) := by decide +kernel
theorem dX8_obey_13 : decode cX8_obey 13 = .ok (.iconst 1, 1) := by decide +kernel
theorem dX8_obey_14 : decode cX8_obey 14 = .ok (.invokevirtual 73, 3) := by decide +kernel
theorem dX8_obey_17 : decode cX8_obey 17 = .ok (.ireturn, 1) := by decide +kernel
theorem dX8_obey_18 : decode cX8_obey 18 = .ok (.aload_n 0, 1) := by decide +kernel
theorem dX8_obey_19 : decode cX8_obey 19 = .ok (.invokevirtual 80, 3) := by decide +kernel
theorem dX8_obey_22 : decode cX8_obey 22 = .ok (.aload_n 0, 1) := by decide +kernel
theorem dX8_obey_23 : decode cX8_obey 23 = .ok (.iconst 0, 1) := by decide +kernel
theorem dX8_obey_24 : decode cX8_obey 24 = .ok (.putfield 179, 3) := by decide +kernel
theorem dX8_obey_27 : decode cX8_obey 27 = .ok (.iconst 0, 1) := by decide +kernel
theorem dX8_obey_28 : decode cX8_obey 28 = .ok (.istore_n 1, 1) := by decide +kernel
theorem dX8_obey_29 : decode cX8_obey 29 = .ok (.iconst 1, 1) := by decide +kernel
theorem dX8_obey_30 : decode cX8_obey 30 = .ok (.istore_n 2, 1) := by decide +kernel
theorem dX8_obey_31 : decode cX8_obey 31 = .ok (.iload_n 2, 1) := by decide +kernel
theorem dX8_obey_32 : decode cX8_obey 32 = .ok (.ifCond .eq 56, 3) := by decide +kernel
theorem dX8_obey_35 : decode cX8_obey 35 = .ok (.aload_n 0, 1) := by decide +kernel
theorem dX8_obey_36 : decode cX8_obey 36 = .ok (.getfield 179, 3) := by decide +kernel
theorem dX8_obey_39 : decode cX8_obey 39 = .ok (.aload_n 0, 1) := by decide +kernel
theorem dX8_obey_40 : decode cX8_obey 40 = .ok (.getfield 176, 3) := by decide +kernel
theorem dX8_obey_43 : decode cX8_obey 43 = .ok (.if_icmp .ge 45, 3) := by decide +kernel
theorem dX8_obey_46 : decode cX8_obey 46 = .ok (.aload_n 0, 1) := by decide +kernel
theorem dX8_obey_47 : decode cX8_obey 47 = .ok (.aload_n 0, 1) := by decide +kernel
theorem dX8_obey_48 : decode cX8_obey 48 = .ok (.invokevirtual 200, 3) := by decide +kernel
theorem dX8_obey_51 : decode cX8_obey 51 = .ok (.invokevirtual 207, 3) := by decide +kernel
theorem dX8_obey_54 : decode cX8_obey 54 = .ok (.ifCond .lt 7, 3) := by decide +kernel
theorem dX8_obey_57 : decode cX8_obey 57 = .ok (.iconst 1, 1) := by decide +kernel
theorem dX8_obey_58 : decode cX8_obey 58 = .ok (.goto 4, 3) := by decide +kernel
theorem dX8_obey_61 : decode cX8_obey 61 = .ok (.iconst 0, 1) := by decide +kernel
theorem dX8_obey_62 : decode cX8_obey 62 = .ok (.istore_n 2, 1) := by decide +kernel
theorem dX8_obey_63 : decode cX8_obey 63 = .ok (.iload_n 1, 1) := by decide +kernel
theorem dX8_obey_64 : decode cX8_obey 64 = .ok (.iload_n 2, 1) := by decide +kernel
theorem dX8_obey_65 : decode cX8_obey 65 = .ok (.ifCond .eq 7, 3) := by decide +kernel
theorem dX8_obey_68 : decode cX8_obey 68 = .ok (.iconst 1, 1) := by decide +kernel
theorem dX8_obey_69 : decode cX8_obey 69 = .ok (.goto 4, 3) := by decide +kernel
theorem dX8_obey_72 : decode cX8_obey 72 = .ok (.iconst 0, 1) := by decide +kernel
theorem dX8_obey_73 : decode cX8_obey 73 = .ok (.iadd, 1) := by decide +kernel
theorem dX8_obey_74 : decode cX8_obey 74 = .ok (.istore_n 1, 1) := by decide +kernel
theorem dX8_obey_75 : decode cX8_obey 75 = .ok (.aload_n 0, 1) := by decide +kernel
theorem dX8_obey_76 : decode cX8_obey 76 = .ok (.dup, 1) := by decide +kernel
theorem dX8_obey_77 : decode cX8_obey 77 = .ok (.getfield 179, 3) := by decide +kernel
theorem dX8_obey_80 : decode cX8_obey 80 = .ok (.iconst 1, 1) := by decide +kernel
theorem dX8_obey_81 : decode cX8_obey 81 = .ok (.iadd, 1) := by decide +kernel
theorem dX8_obey_82 : decode cX8_obey 82 = .ok (.putfield 179, 3) := by decide +kernel
theorem dX8_obey_85 : decode cX8_obey 85 = .ok (.goto (-54), 3) := by decide +kernel
theorem dX8_obey_88 : decode cX8_obey 88 = .ok (.aload_n 0, 1) := by decide +kernel
theorem dX8_obey_89 : decode cX8_obey 89 = .ok (.iconst 0, 1) := by decide +kernel
theorem dX8_obey_90 : decode cX8_obey 90 = .ok (.putfield 176, 3) := by decide +kernel
theorem dX8_obey_93 : decode cX8_obey 93 = .ok (.iload_n 1, 1) := by decide +kernel
theorem dX8_obey_94 : decode cX8_obey 94 = .ok (.ireturn, 1) := by decide +kernel
theorem dX8_why_0 : decode cX8_why 0 = .ok (.iconst 0, 1) := by decide +kernel
theorem dX8_why_1 : decode cX8_why 1 = .ok (.istore_n 2, 1) := by decide +kernel
theorem dX8_why_2 : decode cX8_why 2 = .ok (.iload_n 2, 1) := by decide +kernel
theorem dX8_why_3 : decode cX8_why 3 = .ok (.iconst 3, 1) := by decide +kernel
theorem dX8_why_4 : decode cX8_why 4 = .ok (.if_icmp .ge 50, 3) := by decide +kernel
theorem dX8_why_7 : decode cX8_why 7 = .ok (.aload_n 0, 1) := by decide +kernel
theorem dX8_why_8 : decode cX8_why 8 = .ok (.iload_n 1, 1) := by decide +kernel
theorem dX8_why_9 : decode cX8_why 9 = .ok (.iload_n 2, 1) := by decide +kernel
theorem dX8_why_10 : decode cX8_why 10 = .ok (.invokevirtual 67, 3) := by decide +kernel
theorem dX8_why_13 : decode cX8_why 13 = .ok (.ifCond .ne 35, 3) := by decide +kernel
theorem dX8_why_16 : decode cX8_why 16 = .ok (.aload_n 0, 1) := by decide +kernel
theorem dX8_why_17 : decode cX8_why 17 = .ok (.iload_n 1, 1) := by decide +kernel
theorem dX8_why_18 : decode cX8_why 18 = .ok (.iconst 4, 1) := by decide +kernel
theorem dX8_why_19 : decode cX8_why 19 = .ok (.iload_n 2, 1) := by decide +kernel
theorem dX8_why_20 : decode cX8_why 20 = .ok (.iadd, 1) := by decide +kernel
theorem dX8_why_21 : decode cX8_why 21 = .ok (.invokevirtual 51, 3) := by decide +kernel
theorem dX8_why_24 : decode cX8_why 24 = .ok (.ifCond .ne 7, 3) := by decide +kernel
theorem dX8_why_27 : decode cX8_why 27 = .ok (.iconst 1, 1) := by decide +kernel
theorem dX8_why_28 : decode cX8_why 28 = .ok (.goto 19, 3) := by decide +kernel
theorem dX8_why_31 : decode cX8_why 31 = .ok (.aload_n 0, 1) := by decide +kernel
theorem dX8_why_32 : decode cX8_why 32 = .ok (.iload_n 1, 1) := by decide +kernel
theorem dX8_why_33 : decode cX8_why 33 = .ok (.iconst 1, 1) := by decide +kernel
theorem dX8_why_34 : decode cX8_why 34 = .ok (.iload_n 2, 1) := by decide +kernel
theorem dX8_why_35 : decode cX8_why 35 = .ok (.iadd, 1) := by decide +kernel
theorem dX8_why_36 : decode cX8_why 36 = .ok (.invokevirtual 51, 3) := by decide +kernel
theorem dX8_why_39 : decode cX8_why 39 = .ok (.ifCond .eq 7, 3) := by decide +kernel
theorem dX8_why_42 : decode cX8_why 42 = .ok (.iconst 2, 1) := by decide +kernel
theorem dX8_why_43 : decode cX8_why 43 = .ok (.goto 4, 3) := by decide +kernel
theorem dX8_why_46 : decode cX8_why 46 = .ok (.iconst 3, 1) := by decide +kernel
theorem dX8_why_47 : decode cX8_why 47 = .ok (.ireturn, 1) := by decide +kernel
theorem dX8_why_48 : decode cX8_why 48 = .ok (.iinc 2 1, 3) := by decide +kernel
theorem dX8_why_51 : decode cX8_why 51 = .ok (.goto (-49), 3) := by decide +kernel
theorem dX8_why_54 : decode cX8_why 54 = .ok (.iconst 0, 1) := by decide +kernel
theorem dX8_why_55 : decode cX8_why 55 = .ok (.ireturn, 1) := by decide +kernel
theorem dX8_keptAt_0 : decode cX8_keptAt 0 = .ok (.aload_n 0, 1) := by decide +kernel
theorem dX8_keptAt_1 : decode cX8_keptAt 1 = .ok (.iconst (-1), 1) := by decide +kernel
theorem dX8_keptAt_2 : decode cX8_keptAt 2 = .ok (.invokevirtual 124, 3) := by decide +kernel
theorem dX8_keptAt_5 : decode cX8_keptAt 5 = .ok (.istore_n 2, 1) := by decide +kernel
theorem dX8_keptAt_6 : decode cX8_keptAt 6 = .ok (.iconst 0, 1) := by decide +kernel
theorem dX8_keptAt_7 : decode cX8_keptAt 7 = .ok (.istore_n 3, 1) := by decide +kernel
theorem dX8_keptAt_8 : decode cX8_keptAt 8 = .ok (.iload_n 3, 1) := by decide +kernel
theorem dX8_keptAt_9 : decode cX8_keptAt 9 = .ok (.iload_n 1, 1) := by decide +kernel
theorem dX8_keptAt_10 : decode cX8_keptAt 10 = .ok (.if_icmp .ge 19, 3) := by decide +kernel
theorem dX8_keptAt_13 : decode cX8_keptAt 13 = .ok (.aload_n 0, 1) := by decide +kernel
theorem dX8_keptAt_14 : decode cX8_keptAt 14 = .ok (.aload_n 0, 1) := by decide +kernel
theorem dX8_keptAt_15 : decode cX8_keptAt 15 = .ok (.iload_n 2, 1) := by decide +kernel
theorem dX8_keptAt_16 : decode cX8_keptAt 16 = .ok (.invokevirtual 55, 3) := by decide +kernel
theorem dX8_keptAt_19 : decode cX8_keptAt 19 = .ok (.invokevirtual 124, 3) := by decide +kernel
theorem dX8_keptAt_22 : decode cX8_keptAt 22 = .ok (.istore_n 2, 1) := by decide +kernel
theorem dX8_keptAt_23 : decode cX8_keptAt 23 = .ok (.iinc 3 1, 3) := by decide +kernel
theorem dX8_keptAt_26 : decode cX8_keptAt 26 = .ok (.goto (-18), 3) := by decide +kernel
theorem dX8_keptAt_29 : decode cX8_keptAt 29 = .ok (.iload_n 2, 1) := by decide +kernel
theorem dX8_keptAt_30 : decode cX8_keptAt 30 = .ok (.ireturn, 1) := by decide +kernel
theorem dX8_row_0 : decode cX8_row 0 = .ok (.aload_n 0, 1) := by decide +kernel
theorem dX8_row_1 : decode cX8_row 1 = .ok (.iconst 0, 1) := by decide +kernel
theorem dX8_row_2 : decode cX8_row 2 = .ok (.putfield 35, 3) := by decide +kernel
theorem dX8_row_5 : decode cX8_row 5 = .ok (.iload_n 1, 1) := by decide +kernel
theorem dX8_row_6 : decode cX8_row 6 = .ok (.iconst 0, 1) := by decide +kernel
theorem dX8_row_7 : decode cX8_row 7 = .ok (.aload_n 0, 1) := by decide +kernel
theorem dX8_row_8 : decode cX8_row 8 = .ok (.invokevirtual 91, 3) := by decide +kernel
theorem dX8_row_11 : decode cX8_row 11 = .ok (.iconst 1, 1) := by decide +kernel
theorem dX8_row_12 : decode cX8_row 12 = .ok (.isub, 1) := by decide +kernel
theorem dX8_row_13 : decode cX8_row 13 = .ok (.invokestatic 39, 3) := by decide +kernel
theorem dX8_row_16 : decode cX8_row 16 = .ok (.ifCond .ne 9, 3) := by decide +kernel
theorem dX8_row_19 : decode cX8_row 19 = .ok (.aload_n 0, 1) := by decide +kernel
theorem dX8_row_20 : decode cX8_row 20 = .ok (.iconst 1, 1) := by decide +kernel
theorem dX8_row_21 : decode cX8_row 21 = .ok (.invokevirtual 73, 3) := by decide +kernel
theorem dX8_row_24 : decode cX8_row 24 = .ok (.ireturn, 1) := by decide +kernel
theorem dX8_row_25 : decode cX8_row 25 = .ok (.aload_n 0, 1) := by decide +kernel
theorem dX8_row_26 : decode cX8_row 26 = .ok (.iload_n 1, 1) := by decide +kernel
theorem dX8_row_27 : decode cX8_row 27 = .ok (.invokevirtual 210, 3) := by decide +kernel
theorem dX8_row_30 : decode cX8_row 30 = .ok (.istore_n 3, 1) := by decide +kernel
theorem dX8_row_31 : decode cX8_row 31 = .ok (.iload_n 2, 1) := by decide +kernel
theorem dX8_row_32 : decode cX8_row 32 = .ok (.tableswitch 105 0 7 #[48, 54, 60, 62, 68, 74, 93, 99], 48) := by decide +kernel
theorem dX8_row_80 : decode cX8_row 80 = .ok (.aload_n 0, 1) := by decide +kernel
theorem dX8_row_81 : decode cX8_row 81 = .ok (.iload_n 3, 1) := by decide +kernel
theorem dX8_row_82 : decode cX8_row 82 = .ok (.invokevirtual 55, 3) := by decide +kernel
theorem dX8_row_85 : decode cX8_row 85 = .ok (.ireturn, 1) := by decide +kernel
theorem dX8_row_86 : decode cX8_row 86 = .ok (.aload_n 0, 1) := by decide +kernel
theorem dX8_row_87 : decode cX8_row 87 = .ok (.iload_n 3, 1) := by decide +kernel
theorem dX8_row_88 : decode cX8_row 88 = .ok (.invokevirtual 47, 3) := by decide +kernel
theorem dX8_row_91 : decode cX8_row 91 = .ok (.ireturn, 1) := by decide +kernel
theorem dX8_row_92 : decode cX8_row 92 = .ok (.iload_n 3, 1) := by decide +kernel
theorem dX8_row_93 : decode cX8_row 93 = .ok (.ireturn, 1) := by decide +kernel
theorem dX8_row_94 : decode cX8_row 94 = .ok (.aload_n 0, 1) := by decide +kernel
theorem dX8_row_95 : decode cX8_row 95 = .ok (.iload_n 3, 1) := by decide +kernel
theorem dX8_row_96 : decode cX8_row 96 = .ok (.invokevirtual 61, 3) := by decide +kernel
theorem dX8_row_99 : decode cX8_row 99 = .ok (.ireturn, 1) := by decide +kernel
theorem dX8_row_100 : decode cX8_row 100 = .ok (.aload_n 0, 1) := by decide +kernel
theorem dX8_row_101 : decode cX8_row 101 = .ok (.iload_n 3, 1) := by decide +kernel
theorem dX8_row_102 : decode cX8_row 102 = .ok (.invokevirtual 104, 3) := by decide +kernel
theorem dX8_row_105 : decode cX8_row 105 = .ok (.ireturn, 1) := by decide +kernel
theorem dX8_row_106 : decode cX8_row 106 = .ok (.aload_n 0, 1) := by decide +kernel
theorem dX8_row_107 : decode cX8_row 107 = .ok (.getfield 7, 3) := by decide +kernel
theorem dX8_row_110 : decode cX8_row 110 = .ok (.bipush 97, 2) := by decide +kernel
theorem dX8_row_112 : decode cX8_row 112 = .ok (.iconst 3, 1) := by decide +kernel
theorem dX8_row_113 : decode cX8_row 113 = .ok (.iload_n 3, 1) := by decide +kernel
theorem dX8_row_114 : decode cX8_row 114 = .ok (.imul, 1) := by decide +kernel
theorem dX8_row_115 : decode cX8_row 115 = .ok (.iadd, 1) := by decide +kernel
theorem dX8_row_116 : decode cX8_row 116 = .ok (.iconst 2, 1) := by decide +kernel
theorem dX8_row_117 : decode cX8_row 117 = .ok (.iadd, 1) := by decide +kernel
theorem dX8_row_118 : decode cX8_row 118 = .ok (.iaload, 1) := by decide +kernel
theorem dX8_row_119 : decode cX8_row 119 = .ok (.iconst 1, 1) := by decide +kernel
theorem dX8_row_120 : decode cX8_row 120 = .ok (.ishr, 1) := by decide +kernel
theorem dX8_row_121 : decode cX8_row 121 = .ok (.bipush 7, 2) := by decide +kernel
theorem dX8_row_123 : decode cX8_row 123 = .ok (.iand, 1) := by decide +kernel
theorem dX8_row_124 : decode cX8_row 124 = .ok (.ireturn, 1) := by decide +kernel
theorem dX8_row_125 : decode cX8_row 125 = .ok (.aload_n 0, 1) := by decide +kernel
theorem dX8_row_126 : decode cX8_row 126 = .ok (.iload_n 3, 1) := by decide +kernel
theorem dX8_row_127 : decode cX8_row 127 = .ok (.invokevirtual 94, 3) := by decide +kernel
theorem dX8_row_130 : decode cX8_row 130 = .ok (.ireturn, 1) := by decide +kernel
theorem dX8_row_131 : decode cX8_row 131 = .ok (.aload_n 0, 1) := by decide +kernel
theorem dX8_row_132 : decode cX8_row 132 = .ok (.iload_n 3, 1) := by decide +kernel
theorem dX8_row_133 : decode cX8_row 133 = .ok (.invokevirtual 213, 3) := by decide +kernel
theorem dX8_row_136 : decode cX8_row 136 = .ok (.ireturn, 1) := by decide +kernel
theorem dX8_row_137 : decode cX8_row 137 = .ok (.aload_n 0, 1) := by decide +kernel
theorem dX8_row_138 : decode cX8_row 138 = .ok (.iconst 2, 1) := by decide +kernel
theorem dX8_row_139 : decode cX8_row 139 = .ok (.invokevirtual 73, 3) := by decide +kernel
theorem dX8_row_142 : decode cX8_row 142 = .ok (.ireturn, 1) := by decide +kernel
theorem dX8_valuesAt_0 : decode cX8_valuesAt 0 = .ok (.iconst 0, 1) := by decide +kernel
theorem dX8_valuesAt_1 : decode cX8_valuesAt 1 = .ok (.istore_n 2, 1) := by decide +kernel
theorem dX8_valuesAt_2 : decode cX8_valuesAt 2 = .ok (.iconst 0, 1) := by decide +kernel
theorem dX8_valuesAt_3 : decode cX8_valuesAt 3 = .ok (.istore_n 3, 1) := by decide +kernel
theorem dX8_valuesAt_4 : decode cX8_valuesAt 4 = .ok (.iload_n 3, 1) := by decide +kernel
theorem dX8_valuesAt_5 : decode cX8_valuesAt 5 = .ok (.aload_n 0, 1) := by decide +kernel
theorem dX8_valuesAt_6 : decode cX8_valuesAt 6 = .ok (.iload_n 1, 1) := by decide +kernel
theorem dX8_valuesAt_7 : decode cX8_valuesAt 7 = .ok (.iconst 1, 1) := by decide +kernel
theorem dX8_valuesAt_8 : decode cX8_valuesAt 8 = .ok (.invokevirtual 43, 3) := by decide +kernel
theorem dX8_valuesAt_11 : decode cX8_valuesAt 11 = .ok (.if_icmp .ge 24, 3) := by decide +kernel
theorem dX8_valuesAt_14 : decode cX8_valuesAt 14 = .ok (.iload_n 2, 1) := by decide +kernel
theorem dX8_valuesAt_15 : decode cX8_valuesAt 15 = .ok (.aload_n 0, 1) := by decide +kernel
theorem dX8_valuesAt_16 : decode cX8_valuesAt 16 = .ok (.iload_n 1, 1) := by decide +kernel
theorem dX8_valuesAt_17 : decode cX8_valuesAt 17 = .ok (.iconst 2, 1) := by decide +kernel
theorem dX8_valuesAt_18 : decode cX8_valuesAt 18 = .ok (.iconst 3, 1) := by decide +kernel
theorem dX8_valuesAt_19 : decode cX8_valuesAt 19 = .ok (.iload_n 3, 1) := by decide +kernel
theorem dX8_valuesAt_20 : decode cX8_valuesAt 20 = .ok (.imul, 1) := by decide +kernel
theorem dX8_valuesAt_21 : decode cX8_valuesAt 21 = .ok (.iadd, 1) := by decide +kernel
theorem dX8_valuesAt_22 : decode cX8_valuesAt 22 = .ok (.iconst 1, 1) := by decide +kernel
theorem dX8_valuesAt_23 : decode cX8_valuesAt 23 = .ok (.iadd, 1) := by decide +kernel
theorem dX8_valuesAt_24 : decode cX8_valuesAt 24 = .ok (.invokevirtual 43, 3) := by decide +kernel
theorem dX8_valuesAt_27 : decode cX8_valuesAt 27 = .ok (.iadd, 1) := by decide +kernel
theorem dX8_valuesAt_28 : decode cX8_valuesAt 28 = .ok (.istore_n 2, 1) := by decide +kernel
theorem dX8_valuesAt_29 : decode cX8_valuesAt 29 = .ok (.iinc 3 1, 3) := by decide +kernel
theorem dX8_valuesAt_32 : decode cX8_valuesAt 32 = .ok (.goto (-28), 3) := by decide +kernel
theorem dX8_valuesAt_35 : decode cX8_valuesAt 35 = .ok (.iload_n 2, 1) := by decide +kernel
theorem dX8_valuesAt_36 : decode cX8_valuesAt 36 = .ok (.ireturn, 1) := by decide +kernel
theorem dX8_transaction_0 : decode cX8_transaction 0 = .ok (.aload_n 0, 1) := by decide +kernel
theorem dX8_transaction_1 : decode cX8_transaction 1 = .ok (.iconst 0, 1) := by decide +kernel
theorem dX8_transaction_2 : decode cX8_transaction 2 = .ok (.putfield 35, 3) := by decide +kernel
theorem dX8_transaction_5 : decode cX8_transaction 5 = .ok (.iload_n 1, 1) := by decide +kernel
theorem dX8_transaction_6 : decode cX8_transaction 6 = .ok (.iconst 0, 1) := by decide +kernel
theorem dX8_transaction_7 : decode cX8_transaction 7 = .ok (.iconst 3, 1) := by decide +kernel
theorem dX8_transaction_8 : decode cX8_transaction 8 = .ok (.invokestatic 39, 3) := by decide +kernel
theorem dX8_transaction_11 : decode cX8_transaction 11 = .ok (.ifCond .ne 9, 3) := by decide +kernel
theorem dX8_transaction_14 : decode cX8_transaction 14 = .ok (.aload_n 0, 1) := by decide +kernel
theorem dX8_transaction_15 : decode cX8_transaction 15 = .ok (.iconst 1, 1) := by decide +kernel
theorem dX8_transaction_16 : decode cX8_transaction 16 = .ok (.invokevirtual 73, 3) := by decide +kernel
theorem dX8_transaction_19 : decode cX8_transaction 19 = .ok (.ireturn, 1) := by decide +kernel
theorem dX8_transaction_20 : decode cX8_transaction 20 = .ok (.iload_n 2, 1) := by decide +kernel
theorem dX8_transaction_21 : decode cX8_transaction 21 = .ok (.iconst 0, 1) := by decide +kernel
theorem dX8_transaction_22 : decode cX8_transaction 22 = .ok (.iconst 2, 1) := by decide +kernel
theorem dX8_transaction_23 : decode cX8_transaction 23 = .ok (.invokestatic 39, 3) := by decide +kernel
theorem dX8_transaction_26 : decode cX8_transaction 26 = .ok (.ifCond .ne 9, 3) := by decide +kernel
theorem dX8_transaction_29 : decode cX8_transaction 29 = .ok (.aload_n 0, 1) := by decide +kernel
theorem dX8_transaction_30 : decode cX8_transaction 30 = .ok (.iconst 2, 1) := by decide +kernel
theorem dX8_transaction_31 : decode cX8_transaction 31 = .ok (.invokevirtual 73, 3) := by decide +kernel
theorem dX8_transaction_34 : decode cX8_transaction 34 = .ok (.ireturn, 1) := by decide +kernel
theorem dX8_transaction_35 : decode cX8_transaction 35 = .ok (.aload_n 0, 1) := by decide +kernel
theorem dX8_transaction_36 : decode cX8_transaction 36 = .ok (.iload_n 1, 1) := by decide +kernel
theorem dX8_transaction_37 : decode cX8_transaction 37 = .ok (.invokevirtual 87, 3) := by decide +kernel
theorem dX8_transaction_40 : decode cX8_transaction 40 = .ok (.ifCond .ne 5, 3) := by decide +kernel
theorem dX8_transaction_43 : decode cX8_transaction 43 = .ok (.iconst (-1), 1) := by decide +kernel
theorem dX8_transaction_44 : decode cX8_transaction 44 = .ok (.ireturn, 1) := by decide +kernel
theorem dX8_transaction_45 : decode cX8_transaction 45 = .ok (.aload_n 0, 1) := by decide +kernel
theorem dX8_transaction_46 : decode cX8_transaction 46 = .ok (.iload_n 1, 1) := by decide +kernel
theorem dX8_transaction_47 : decode cX8_transaction 47 = .ok (.iconst 1, 1) := by decide +kernel
theorem dX8_transaction_48 : decode cX8_transaction 48 = .ok (.invokevirtual 43, 3) := by decide +kernel
theorem dX8_transaction_51 : decode cX8_transaction 51 = .ok (.istore_n 3, 1) := by decide +kernel
theorem dX8_transaction_52 : decode cX8_transaction 52 = .ok (.iload_n 2, 1) := by decide +kernel
theorem dX8_transaction_53 : decode cX8_transaction 53 = .ok (.ifCond .ne 7, 3) := by decide +kernel
theorem dX8_transaction_56 : decode cX8_transaction 56 = .ok (.iload_n 3, 1) := by decide +kernel
theorem dX8_transaction_57 : decode cX8_transaction 57 = .ok (.goto 30, 3) := by decide +kernel
theorem dX8_transaction_60 : decode cX8_transaction 60 = .ok (.iload_n 2, 1) := by decide +kernel
theorem dX8_transaction_61 : decode cX8_transaction 61 = .ok (.iconst 2, 1) := by decide +kernel
theorem dX8_transaction_62 : decode cX8_transaction 62 = .ok (.if_icmp .ne 11, 3) := by decide +kernel
theorem dX8_transaction_65 : decode cX8_transaction 65 = .ok (.aload_n 0, 1) := by decide +kernel
theorem dX8_transaction_66 : decode cX8_transaction 66 = .ok (.iload_n 1, 1) := by decide +kernel
theorem dX8_transaction_67 : decode cX8_transaction 67 = .ok (.invokevirtual 216, 3) := by decide +kernel
theorem dX8_transaction_70 : decode cX8_transaction 70 = .ok (.goto 17, 3) := by decide +kernel
theorem dX8_transaction_73 : decode cX8_transaction 73 = .ok (.iload_n 3, 1) := by decide +kernel
theorem dX8_transaction_74 : decode cX8_transaction 74 = .ok (.ifCond .ne 7, 3) := by decide +kernel
theorem dX8_transaction_77 : decode cX8_transaction 77 = .ok (.iconst (-1), 1) := by decide +kernel
theorem dX8_transaction_78 : decode cX8_transaction 78 = .ok (.goto 9, 3) := by decide +kernel
theorem dX8_transaction_81 : decode cX8_transaction 81 = .ok (.aload_n 0, 1) := by decide +kernel
theorem dX8_transaction_82 : decode cX8_transaction 82 = .ok (.iload_n 1, 1) := by decide +kernel
theorem dX8_transaction_83 : decode cX8_transaction 83 = .ok (.iconst 4, 1) := by decide +kernel
theorem dX8_transaction_84 : decode cX8_transaction 84 = .ok (.invokevirtual 43, 3) := by decide +kernel
theorem dX8_transaction_87 : decode cX8_transaction 87 = .ok (.ireturn, 1) := by decide +kernel
theorem dX8_shouldHave_0 : decode cX8_shouldHave 0 = .ok (.iconst 0, 1) := by decide +kernel
theorem dX8_shouldHave_1 : decode cX8_shouldHave 1 = .ok (.istore_n 2, 1) := by decide +kernel
theorem dX8_shouldHave_2 : decode cX8_shouldHave 2 = .ok (.iconst 0, 1) := by decide +kernel
theorem dX8_shouldHave_3 : decode cX8_shouldHave 3 = .ok (.istore_n 3, 1) := by decide +kernel
theorem dX8_shouldHave_4 : decode cX8_shouldHave 4 = .ok (.iload_n 3, 1) := by decide +kernel
theorem dX8_shouldHave_5 : decode cX8_shouldHave 5 = .ok (.aload_n 0, 1) := by decide +kernel
theorem dX8_shouldHave_6 : decode cX8_shouldHave 6 = .ok (.getfield 7, 3) := by decide +kernel
theorem dX8_shouldHave_9 : decode cX8_shouldHave 9 = .ok (.iconst 2, 1) := by decide +kernel
theorem dX8_shouldHave_10 : decode cX8_shouldHave 10 = .ok (.iaload, 1) := by decide +kernel
theorem dX8_shouldHave_11 : decode cX8_shouldHave 11 = .ok (.if_icmp .ge 48, 3) := by decide +kernel
theorem dX8_shouldHave_14 : decode cX8_shouldHave 14 = .ok (.iload_n 2, 1) := by decide +kernel
theorem dX8_shouldHave_15 : decode cX8_shouldHave 15 = .ok (.aload_n 0, 1) := by decide +kernel
theorem dX8_shouldHave_16 : decode cX8_shouldHave 16 = .ok (.iload_n 1, 1) := by decide +kernel
theorem dX8_shouldHave_17 : decode cX8_shouldHave 17 = .ok (.aload_n 0, 1) := by decide +kernel
theorem dX8_shouldHave_18 : decode cX8_shouldHave 18 = .ok (.iload_n 3, 1) := by decide +kernel
theorem dX8_shouldHave_19 : decode cX8_shouldHave 19 = .ok (.invokevirtual 61, 3) := by decide +kernel
theorem dX8_shouldHave_22 : decode cX8_shouldHave 22 = .ok (.invokevirtual 64, 3) := by decide +kernel
theorem dX8_shouldHave_25 : decode cX8_shouldHave 25 = .ok (.ifCond .eq 25, 3) := by decide +kernel
theorem dX8_shouldHave_28 : decode cX8_shouldHave 28 = .ok (.aload_n 0, 1) := by decide +kernel
theorem dX8_shouldHave_29 : decode cX8_shouldHave 29 = .ok (.iload_n 3, 1) := by decide +kernel
theorem dX8_shouldHave_30 : decode cX8_shouldHave 30 = .ok (.invokevirtual 55, 3) := by decide +kernel
theorem dX8_shouldHave_33 : decode cX8_shouldHave 33 = .ok (.aload_n 0, 1) := by decide +kernel
theorem dX8_shouldHave_34 : decode cX8_shouldHave 34 = .ok (.iload_n 1, 1) := by decide +kernel
theorem dX8_shouldHave_35 : decode cX8_shouldHave 35 = .ok (.iconst 1, 1) := by decide +kernel
theorem dX8_shouldHave_36 : decode cX8_shouldHave 36 = .ok (.invokevirtual 58, 3) := by decide +kernel
theorem dX8_shouldHave_39 : decode cX8_shouldHave 39 = .ok (.if_icmp .gt 11, 3) := by decide +kernel
theorem dX8_shouldHave_42 : decode cX8_shouldHave 42 = .ok (.aload_n 0, 1) := by decide +kernel
theorem dX8_shouldHave_43 : decode cX8_shouldHave 43 = .ok (.iload_n 3, 1) := by decide +kernel
theorem dX8_shouldHave_44 : decode cX8_shouldHave 44 = .ok (.invokevirtual 104, 3) := by decide +kernel
theorem dX8_shouldHave_47 : decode cX8_shouldHave 47 = .ok (.goto 4, 3) := by decide +kernel
theorem dX8_shouldHave_50 : decode cX8_shouldHave 50 = .ok (.iconst 0, 1) := by decide +kernel
theorem dX8_shouldHave_51 : decode cX8_shouldHave 51 = .ok (.iadd, 1) := by decide +kernel
theorem dX8_shouldHave_52 : decode cX8_shouldHave 52 = .ok (.istore_n 2, 1) := by decide +kernel
theorem dX8_shouldHave_53 : decode cX8_shouldHave 53 = .ok (.iinc 3 1, 3) := by decide +kernel
theorem dX8_shouldHave_56 : decode cX8_shouldHave 56 = .ok (.goto (-52), 3) := by decide +kernel
theorem dX8_shouldHave_59 : decode cX8_shouldHave 59 = .ok (.iload_n 2, 1) := by decide +kernel
theorem dX8_shouldHave_60 : decode cX8_shouldHave 60 = .ok (.ireturn, 1) := by decide +kernel
theorem dX8_onWay_0 : decode cX8_onWay 0 = .ok (.iconst 0, 1) := by decide +kernel
theorem dX8_onWay_1 : decode cX8_onWay 1 = .ok (.istore_n 2, 1) := by decide +kernel
theorem dX8_onWay_2 : decode cX8_onWay 2 = .ok (.iconst 0, 1) := by decide +kernel
theorem dX8_onWay_3 : decode cX8_onWay 3 = .ok (.istore_n 3, 1) := by decide +kernel
theorem dX8_onWay_4 : decode cX8_onWay 4 = .ok (.iload_n 3, 1) := by decide +kernel
theorem dX8_onWay_5 : decode cX8_onWay 5 = .ok (.aload_n 0, 1) := by decide +kernel
theorem dX8_onWay_6 : decode cX8_onWay 6 = .ok (.getfield 7, 3) := by decide +kernel
theorem dX8_onWay_9 : decode cX8_onWay 9 = .ok (.bipush 9, 2) := by decide +kernel
theorem dX8_onWay_11 : decode cX8_onWay 11 = .ok (.iaload, 1) := by decide +kernel
theorem dX8_onWay_12 : decode cX8_onWay 12 = .ok (.if_icmp .ge 27, 3) := by decide +kernel
theorem dX8_onWay_15 : decode cX8_onWay 15 = .ok (.iload_n 2, 1) := by decide +kernel
theorem dX8_onWay_16 : decode cX8_onWay 16 = .ok (.aload_n 0, 1) := by decide +kernel
theorem dX8_onWay_17 : decode cX8_onWay 17 = .ok (.iload_n 3, 1) := by decide +kernel
theorem dX8_onWay_18 : decode cX8_onWay 18 = .ok (.iconst 1, 1) := by decide +kernel
theorem dX8_onWay_19 : decode cX8_onWay 19 = .ok (.invokevirtual 101, 3) := by decide +kernel
theorem dX8_onWay_22 : decode cX8_onWay 22 = .ok (.iload_n 1, 1) := by decide +kernel
theorem dX8_onWay_23 : decode cX8_onWay 23 = .ok (.if_icmp .ne 7, 3) := by decide +kernel
theorem dX8_onWay_26 : decode cX8_onWay 26 = .ok (.iconst 1, 1) := by decide +kernel
theorem dX8_onWay_27 : decode cX8_onWay 27 = .ok (.goto 4, 3) := by decide +kernel
theorem dX8_onWay_30 : decode cX8_onWay 30 = .ok (.iconst 0, 1) := by decide +kernel
theorem dX8_onWay_31 : decode cX8_onWay 31 = .ok (.iadd, 1) := by decide +kernel
theorem dX8_onWay_32 : decode cX8_onWay 32 = .ok (.istore_n 2, 1) := by decide +kernel
theorem dX8_onWay_33 : decode cX8_onWay 33 = .ok (.iinc 3 1, 3) := by decide +kernel
theorem dX8_onWay_36 : decode cX8_onWay 36 = .ok (.goto (-32), 3) := by decide +kernel
theorem dX8_onWay_39 : decode cX8_onWay 39 = .ok (.iload_n 2, 1) := by decide +kernel
theorem dX8_onWay_40 : decode cX8_onWay 40 = .ok (.ireturn, 1) := by decide +kernel
theorem dX8_receiver_0 : decode cX8_receiver 0 = .ok (.aload_n 0, 1) := by decide +kernel
theorem dX8_receiver_1 : decode cX8_receiver 1 = .ok (.iconst 0, 1) := by decide +kernel
theorem dX8_receiver_2 : decode cX8_receiver 2 = .ok (.putfield 35, 3) := by decide +kernel
theorem dX8_receiver_5 : decode cX8_receiver 5 = .ok (.iload_n 1, 1) := by decide +kernel
theorem dX8_receiver_6 : decode cX8_receiver 6 = .ok (.iconst 0, 1) := by decide +kernel
theorem dX8_receiver_7 : decode cX8_receiver 7 = .ok (.iconst 2, 1) := by decide +kernel
theorem dX8_receiver_8 : decode cX8_receiver 8 = .ok (.invokestatic 39, 3) := by decide +kernel
theorem dX8_receiver_11 : decode cX8_receiver 11 = .ok (.ifCond .ne 9, 3) := by decide +kernel
theorem dX8_receiver_14 : decode cX8_receiver 14 = .ok (.aload_n 0, 1) := by decide +kernel
theorem dX8_receiver_15 : decode cX8_receiver 15 = .ok (.iconst 1, 1) := by decide +kernel
theorem dX8_receiver_16 : decode cX8_receiver 16 = .ok (.invokevirtual 73, 3) := by decide +kernel
theorem dX8_receiver_19 : decode cX8_receiver 19 = .ok (.ireturn, 1) := by decide +kernel
theorem dX8_receiver_20 : decode cX8_receiver 20 = .ok (.iload_n 2, 1) := by decide +kernel
theorem dX8_receiver_21 : decode cX8_receiver 21 = .ok (.tableswitch 104 0 13 #[71, 71, 71, 71, 71, 71, 71, 71, 71, 71, 78, 84, 92, 98], 71) := by decide +kernel
theorem dX8_receiver_92 : decode cX8_receiver 92 = .ok (.aload_n 0, 1) := by decide +kernel
theorem dX8_receiver_93 : decode cX8_receiver 93 = .ok (.iload_n 1, 1) := by decide +kernel
theorem dX8_receiver_94 : decode cX8_receiver 94 = .ok (.iload_n 2, 1) := by decide +kernel
theorem dX8_receiver_95 : decode cX8_receiver 95 = .ok (.invokevirtual 58, 3) := by decide +kernel
theorem dX8_receiver_98 : decode cX8_receiver 98 = .ok (.ireturn, 1) := by decide +kernel
theorem dX8_receiver_99 : decode cX8_receiver 99 = .ok (.aload_n 0, 1) := by decide +kernel
theorem dX8_receiver_100 : decode cX8_receiver 100 = .ok (.iload_n 1, 1) := by decide +kernel
theorem dX8_receiver_101 : decode cX8_receiver 101 = .ok (.invokevirtual 219, 3) := by decide +kernel
theorem dX8_receiver_104 : decode cX8_receiver 104 = .ok (.ireturn, 1) := by decide +kernel
theorem dX8_receiver_105 : decode cX8_receiver 105 = .ok (.aload_n 0, 1) := by decide +kernel
theorem dX8_receiver_106 : decode cX8_receiver 106 = .ok (.iload_n 1, 1) := by decide +kernel
theorem dX8_receiver_107 : decode cX8_receiver 107 = .ok (.bipush 12, 2) := by decide +kernel
theorem dX8_receiver_109 : decode cX8_receiver 109 = .ok (.invokevirtual 58, 3) := by decide +kernel
theorem dX8_receiver_112 : decode cX8_receiver 112 = .ok (.ireturn, 1) := by decide +kernel
theorem dX8_receiver_113 : decode cX8_receiver 113 = .ok (.aload_n 0, 1) := by decide +kernel
theorem dX8_receiver_114 : decode cX8_receiver 114 = .ok (.iload_n 1, 1) := by decide +kernel
theorem dX8_receiver_115 : decode cX8_receiver 115 = .ok (.invokevirtual 222, 3) := by decide +kernel
theorem dX8_receiver_118 : decode cX8_receiver 118 = .ok (.ireturn, 1) := by decide +kernel
theorem dX8_receiver_119 : decode cX8_receiver 119 = .ok (.aload_n 0, 1) := by decide +kernel
theorem dX8_receiver_120 : decode cX8_receiver 120 = .ok (.iload_n 1, 1) := by decide +kernel
theorem dX8_receiver_121 : decode cX8_receiver 121 = .ok (.invokevirtual 225, 3) := by decide +kernel
theorem dX8_receiver_124 : decode cX8_receiver 124 = .ok (.ireturn, 1) := by decide +kernel
theorem dX8_receiver_125 : decode cX8_receiver 125 = .ok (.aload_n 0, 1) := by decide +kernel
theorem dX8_receiver_126 : decode cX8_receiver 126 = .ok (.iconst 2, 1) := by decide +kernel
theorem dX8_receiver_127 : decode cX8_receiver 127 = .ok (.invokevirtual 73, 3) := by decide +kernel
theorem dX8_receiver_130 : decode cX8_receiver 130 = .ok (.ireturn, 1) := by decide +kernel
theorem dX8_message_0 : decode cX8_message 0 = .ok (.aload_n 0, 1) := by decide +kernel
theorem dX8_message_1 : decode cX8_message 1 = .ok (.iconst 0, 1) := by decide +kernel
theorem dX8_message_2 : decode cX8_message 2 = .ok (.putfield 35, 3) := by decide +kernel
theorem dX8_message_5 : decode cX8_message 5 = .ok (.iload_n 1, 1) := by decide +kernel
theorem dX8_message_6 : decode cX8_message 6 = .ok (.iconst 0, 1) := by decide +kernel
theorem dX8_message_7 : decode cX8_message 7 = .ok (.aload_n 0, 1) := by decide +kernel
theorem dX8_message_8 : decode cX8_message 8 = .ok (.getfield 7, 3) := by decide +kernel
theorem dX8_message_11 : decode cX8_message 11 = .ok (.bipush 9, 2) := by decide +kernel
theorem dX8_message_13 : decode cX8_message 13 = .ok (.iaload, 1) := by decide +kernel
theorem dX8_message_14 : decode cX8_message 14 = .ok (.iconst 1, 1) := by decide +kernel
theorem dX8_message_15 : decode cX8_message 15 = .ok (.isub, 1) := by decide +kernel
theorem dX8_message_16 : decode cX8_message 16 = .ok (.invokestatic 39, 3) := by decide +kernel
theorem dX8_message_19 : decode cX8_message 19 = .ok (.ifCond .ne 9, 3) := by decide +kernel
theorem dX8_message_22 : decode cX8_message 22 = .ok (.aload_n 0, 1) := by decide +kernel
theorem dX8_message_23 : decode cX8_message 23 = .ok (.iconst 1, 1) := by decide +kernel
theorem dX8_message_24 : decode cX8_message 24 = .ok (.invokevirtual 73, 3) := by decide +kernel
theorem dX8_message_27 : decode cX8_message 27 = .ok (.ireturn, 1) := by decide +kernel
theorem dX8_message_28 : decode cX8_message 28 = .ok (.aload_n 0, 1) := by decide +kernel
theorem dX8_message_29 : decode cX8_message 29 = .ok (.iload_n 1, 1) := by decide +kernel
theorem dX8_message_30 : decode cX8_message 30 = .ok (.invokevirtual 164, 3) := by decide +kernel
theorem dX8_message_33 : decode cX8_message 33 = .ok (.istore_n 3, 1) := by decide +kernel
theorem dX8_message_34 : decode cX8_message 34 = .ok (.iload_n 2, 1) := by decide +kernel
theorem dX8_message_35 : decode cX8_message 35 = .ok (.tableswitch 75 0 4 #[33, 40, 47, 61, 68], 33) := by decide +kernel
theorem dX8_message_68 : decode cX8_message 68 = .ok (.aload_n 0, 1) := by decide +kernel
theorem dX8_message_69 : decode cX8_message 69 = .ok (.iload_n 3, 1) := by decide +kernel
theorem dX8_message_70 : decode cX8_message 70 = .ok (.iconst 0, 1) := by decide +kernel
theorem dX8_message_71 : decode cX8_message 71 = .ok (.invokevirtual 101, 3) := by decide +kernel
theorem dX8_message_74 : decode cX8_message 74 = .ok (.ireturn, 1) := by decide +kernel
theorem dX8_message_75 : decode cX8_message 75 = .ok (.aload_n 0, 1) := by decide +kernel
theorem dX8_message_76 : decode cX8_message 76 = .ok (.iload_n 3, 1) := by decide +kernel
theorem dX8_message_77 : decode cX8_message 77 = .ok (.iconst 1, 1) := by decide +kernel
theorem dX8_message_78 : decode cX8_message 78 = .ok (.invokevirtual 101, 3) := by decide +kernel
theorem dX8_message_81 : decode cX8_message 81 = .ok (.ireturn, 1) := by decide +kernel
theorem dX8_message_82 : decode cX8_message 82 = .ok (.aload_n 0, 1) := by decide +kernel
theorem dX8_message_83 : decode cX8_message 83 = .ok (.iload_n 3, 1) := by decide +kernel
theorem dX8_message_84 : decode cX8_message 84 = .ok (.iconst 2, 1) := by decide +kernel
theorem dX8_message_85 : decode cX8_message 85 = .ok (.invokevirtual 101, 3) := by decide +kernel
theorem dX8_message_88 : decode cX8_message 88 = .ok (.aload_n 0, 1) := by decide +kernel
theorem dX8_message_89 : decode cX8_message 89 = .ok (.getfield 7, 3) := by decide +kernel
theorem dX8_message_92 : decode cX8_message 92 = .ok (.iconst 0, 1) := by decide +kernel
theorem dX8_message_93 : decode cX8_message 93 = .ok (.iaload, 1) := by decide +kernel
theorem dX8_message_94 : decode cX8_message 94 = .ok (.isub, 1) := by decide +kernel
theorem dX8_message_95 : decode cX8_message 95 = .ok (.ireturn, 1) := by decide +kernel
theorem dX8_message_96 : decode cX8_message 96 = .ok (.aload_n 0, 1) := by decide +kernel
theorem dX8_message_97 : decode cX8_message 97 = .ok (.iload_n 3, 1) := by decide +kernel
theorem dX8_message_98 : decode cX8_message 98 = .ok (.iconst 3, 1) := by decide +kernel
theorem dX8_message_99 : decode cX8_message 99 = .ok (.invokevirtual 101, 3) := by decide +kernel
theorem dX8_message_102 : decode cX8_message 102 = .ok (.ireturn, 1) := by decide +kernel
theorem dX8_message_103 : decode cX8_message 103 = .ok (.aload_n 0, 1) := by decide +kernel
theorem dX8_message_104 : decode cX8_message 104 = .ok (.iload_n 3, 1) := by decide +kernel
theorem dX8_message_105 : decode cX8_message 105 = .ok (.iconst 4, 1) := by decide +kernel
theorem dX8_message_106 : decode cX8_message 106 = .ok (.invokevirtual 101, 3) := by decide +kernel
theorem dX8_message_109 : decode cX8_message 109 = .ok (.ireturn, 1) := by decide +kernel
theorem dX8_message_110 : decode cX8_message 110 = .ok (.aload_n 0, 1) := by decide +kernel
theorem dX8_message_111 : decode cX8_message 111 = .ok (.iconst 2, 1) := by decide +kernel
theorem dX8_message_112 : decode cX8_message 112 = .ok (.invokevirtual 73, 3) := by decide +kernel
theorem dX8_message_115 : decode cX8_message 115 = .ok (.ireturn, 1) := by decide +kernel
theorem dX8_openOnes_0 : decode cX8_openOnes 0 = .ok (.aload_n 0, 1) := by decide +kernel
theorem dX8_openOnes_1 : decode cX8_openOnes 1 = .ok (.iconst 0, 1) := by decide +kernel
theorem dX8_openOnes_2 : decode cX8_openOnes 2 = .ok (.iconst 0, 1) := by decide +kernel
theorem dX8_openOnes_3 : decode cX8_openOnes 3 = .ok (.invokevirtual 43, 3) := by decide +kernel
theorem dX8_openOnes_6 : decode cX8_openOnes 6 = .ok (.aload_n 0, 1) := by decide +kernel
theorem dX8_openOnes_7 : decode cX8_openOnes 7 = .ok (.iconst 1, 1) := by decide +kernel
theorem dX8_openOnes_8 : decode cX8_openOnes 8 = .ok (.iconst 0, 1) := by decide +kernel
theorem dX8_openOnes_9 : decode cX8_openOnes 9 = .ok (.invokevirtual 43, 3) := by decide +kernel
theorem dX8_openOnes_12 : decode cX8_openOnes 12 = .ok (.iadd, 1) := by decide +kernel
theorem dX8_openOnes_13 : decode cX8_openOnes 13 = .ok (.aload_n 0, 1) := by decide +kernel
theorem dX8_openOnes_14 : decode cX8_openOnes 14 = .ok (.iconst 2, 1) := by decide +kernel
theorem dX8_openOnes_15 : decode cX8_openOnes 15 = .ok (.iconst 0, 1) := by decide +kernel
theorem dX8_openOnes_16 : decode cX8_openOnes 16 = .ok (.invokevirtual 43, 3) := by decide +kernel
theorem dX8_openOnes_19 : decode cX8_openOnes 19 = .ok (.iadd, 1) := by decide +kernel
theorem dX8_openOnes_20 : decode cX8_openOnes 20 = .ok (.aload_n 0, 1) := by decide +kernel
theorem dX8_openOnes_21 : decode cX8_openOnes 21 = .ok (.iconst 3, 1) := by decide +kernel
theorem dX8_openOnes_22 : decode cX8_openOnes 22 = .ok (.iconst 0, 1) := by decide +kernel
theorem dX8_openOnes_23 : decode cX8_openOnes 23 = .ok (.invokevirtual 43, 3) := by decide +kernel
theorem dX8_openOnes_26 : decode cX8_openOnes 26 = .ok (.iadd, 1) := by decide +kernel
theorem dX8_openOnes_27 : decode cX8_openOnes 27 = .ok (.ireturn, 1) := by decide +kernel
theorem dX8_count_0 : decode cX8_count 0 = .ok (.aload_n 0, 1) := by decide +kernel
theorem dX8_count_1 : decode cX8_count 1 = .ok (.iconst 0, 1) := by decide +kernel
theorem dX8_count_2 : decode cX8_count 2 = .ok (.putfield 35, 3) := by decide +kernel
theorem dX8_count_5 : decode cX8_count 5 = .ok (.iload_n 1, 1) := by decide +kernel
theorem dX8_count_6 : decode cX8_count 6 = .ok (.tableswitch 129 0 11 #[62, 62, 62, 69, 74, 81, 88, 95, 103, 111, 119, 124], 62) := by decide +kernel
theorem dX8_count_68 : decode cX8_count 68 = .ok (.aload_n 0, 1) := by decide +kernel
theorem dX8_count_69 : decode cX8_count 69 = .ok (.getfield 7, 3) := by decide +kernel
theorem dX8_count_72 : decode cX8_count 72 = .ok (.iload_n 1, 1) := by decide +kernel
theorem dX8_count_73 : decode cX8_count 73 = .ok (.iaload, 1) := by decide +kernel
theorem dX8_count_74 : decode cX8_count 74 = .ok (.ireturn, 1) := by decide +kernel
theorem dX8_count_75 : decode cX8_count 75 = .ok (.aload_n 0, 1) := by decide +kernel
theorem dX8_count_76 : decode cX8_count 76 = .ok (.invokevirtual 91, 3) := by decide +kernel
theorem dX8_count_79 : decode cX8_count 79 = .ok (.ireturn, 1) := by decide +kernel
theorem dX8_count_80 : decode cX8_count 80 = .ok (.aload_n 0, 1) := by decide +kernel
theorem dX8_count_81 : decode cX8_count 81 = .ok (.getfield 7, 3) := by decide +kernel
theorem dX8_count_84 : decode cX8_count 84 = .ok (.iconst 3, 1) := by decide +kernel
theorem dX8_count_85 : decode cX8_count 85 = .ok (.iaload, 1) := by decide +kernel
theorem dX8_count_86 : decode cX8_count 86 = .ok (.ireturn, 1) := by decide +kernel
theorem dX8_count_87 : decode cX8_count 87 = .ok (.aload_n 0, 1) := by decide +kernel
theorem dX8_count_88 : decode cX8_count 88 = .ok (.getfield 7, 3) := by decide +kernel
theorem dX8_count_91 : decode cX8_count 91 = .ok (.iconst 4, 1) := by decide +kernel
theorem dX8_count_92 : decode cX8_count 92 = .ok (.iaload, 1) := by decide +kernel
theorem dX8_count_93 : decode cX8_count 93 = .ok (.ireturn, 1) := by decide +kernel
theorem dX8_count_94 : decode cX8_count 94 = .ok (.aload_n 0, 1) := by decide +kernel
theorem dX8_count_95 : decode cX8_count 95 = .ok (.getfield 7, 3) := by decide +kernel
theorem dX8_count_98 : decode cX8_count 98 = .ok (.iconst 5, 1) := by decide +kernel
theorem dX8_count_99 : decode cX8_count 99 = .ok (.iaload, 1) := by decide +kernel
theorem dX8_count_100 : decode cX8_count 100 = .ok (.ireturn, 1) := by decide +kernel
theorem dX8_count_101 : decode cX8_count 101 = .ok (.aload_n 0, 1) := by decide +kernel
theorem dX8_count_102 : decode cX8_count 102 = .ok (.getfield 7, 3) := by decide +kernel
theorem dX8_count_105 : decode cX8_count 105 = .ok (.bipush 9, 2) := by decide +kernel
theorem dX8_count_107 : decode cX8_count 107 = .ok (.iaload, 1) := by decide +kernel
theorem dX8_count_108 : decode cX8_count 108 = .ok (.ireturn, 1) := by decide +kernel
theorem dX8_count_109 : decode cX8_count 109 = .ok (.aload_n 0, 1) := by decide +kernel
theorem dX8_count_110 : decode cX8_count 110 = .ok (.getfield 7, 3) := by decide +kernel
theorem dX8_count_113 : decode cX8_count 113 = .ok (.bipush 6, 2) := by decide +kernel
theorem dX8_count_115 : decode cX8_count 115 = .ok (.iaload, 1) := by decide +kernel
theorem dX8_count_116 : decode cX8_count 116 = .ok (.ireturn, 1) := by decide +kernel
theorem dX8_count_117 : decode cX8_count 117 = .ok (.aload_n 0, 1) := by decide +kernel
theorem dX8_count_118 : decode cX8_count 118 = .ok (.getfield 7, 3) := by decide +kernel
theorem dX8_count_121 : decode cX8_count 121 = .ok (.bipush 7, 2) := by decide +kernel
theorem dX8_count_123 : decode cX8_count 123 = .ok (.iaload, 1) := by decide +kernel
theorem dX8_count_124 : decode cX8_count 124 = .ok (.ireturn, 1) := by decide +kernel
theorem dX8_count_125 : decode cX8_count 125 = .ok (.aload_n 0, 1) := by decide +kernel
theorem dX8_count_126 : decode cX8_count 126 = .ok (.invokevirtual 228, 3) := by decide +kernel
theorem dX8_count_129 : decode cX8_count 129 = .ok (.ireturn, 1) := by decide +kernel
theorem dX8_count_130 : decode cX8_count 130 = .ok (.aload_n 0, 1) := by decide +kernel
theorem dX8_count_131 : decode cX8_count 131 = .ok (.getfield 70, 3) := by decide +kernel
theorem dX8_count_134 : decode cX8_count 134 = .ok (.ireturn, 1) := by decide +kernel
theorem dX8_count_135 : decode cX8_count 135 = .ok (.aload_n 0, 1) := by decide +kernel
theorem dX8_count_136 : decode cX8_count 136 = .ok (.iconst 1, 1) := by decide +kernel
theorem dX8_count_137 : decode cX8_count 137 = .ok (.invokevirtual 73, 3) := by decide +kernel
theorem dX8_count_140 : decode cX8_count 140 = .ok (.ireturn, 1) := by decide +kernel
theorem dX8_setting_0 : decode cX8_setting 0 = .ok (.aload_n 0, 1) := by decide +kernel
theorem dX8_setting_1 : decode cX8_setting 1 = .ok (.iconst 0, 1) := by decide +kernel
theorem dX8_setting_2 : decode cX8_setting 2 = .ok (.putfield 35, 3) := by decide +kernel
theorem dX8_setting_5 : decode cX8_setting 5 = .ok (.iload_n 1, 1) := by decide +kernel
theorem dX8_setting_6 : decode cX8_setting 6 = .ok (.iconst 0, 1) := by decide +kernel
theorem dX8_setting_7 : decode cX8_setting 7 = .ok (.bipush 6, 2) := by decide +kernel
theorem dX8_setting_9 : decode cX8_setting 9 = .ok (.invokestatic 39, 3) := by decide +kernel
theorem dX8_setting_12 : decode cX8_setting 12 = .ok (.ifCond .eq 15, 3) := by decide +kernel
theorem dX8_setting_15 : decode cX8_setting 15 = .ok (.aload_n 0, 1) := by decide +kernel
theorem dX8_setting_16 : decode cX8_setting 16 = .ok (.getfield 7, 3) := by decide +kernel
theorem dX8_setting_19 : decode cX8_setting 19 = .ok (.bipush 10, 2) := by decide +kernel
theorem dX8_setting_21 : decode cX8_setting 21 = .ok (.iload_n 1, 1) := by decide +kernel
theorem dX8_setting_22 : decode cX8_setting 22 = .ok (.iadd, 1) := by decide +kernel
theorem dX8_setting_23 : decode cX8_setting 23 = .ok (.iaload, 1) := by decide +kernel
theorem dX8_setting_24 : decode cX8_setting 24 = .ok (.goto 8, 3) := by decide +kernel
theorem dX8_setting_27 : decode cX8_setting 27 = .ok (.aload_n 0, 1) := by decide +kernel
theorem dX8_setting_28 : decode cX8_setting 28 = .ok (.iconst 1, 1) := by decide +kernel
theorem dX8_setting_29 : decode cX8_setting 29 = .ok (.invokevirtual 73, 3) := by decide +kernel
theorem dX8_setting_32 : decode cX8_setting 32 = .ok (.ireturn, 1) := by decide +kernel
theorem dX8_isDrained_0 : decode cX8_isDrained 0 = .ok (.aload_n 0, 1) := by decide +kernel
theorem dX8_isDrained_1 : decode cX8_isDrained 1 = .ok (.getfield 7, 3) := by decide +kernel
theorem dX8_isDrained_4 : decode cX8_isDrained 4 = .ok (.bipush 9, 2) := by decide +kernel
theorem dX8_isDrained_6 : decode cX8_isDrained 6 = .ok (.iaload, 1) := by decide +kernel
theorem dX8_isDrained_7 : decode cX8_isDrained 7 = .ok (.ifCond .ne 31, 3) := by decide +kernel
theorem dX8_isDrained_10 : decode cX8_isDrained 10 = .ok (.aload_n 0, 1) := by decide +kernel
theorem dX8_isDrained_11 : decode cX8_isDrained 11 = .ok (.iconst 0, 1) := by decide +kernel
theorem dX8_isDrained_12 : decode cX8_isDrained 12 = .ok (.invokevirtual 219, 3) := by decide +kernel
theorem dX8_isDrained_15 : decode cX8_isDrained 15 = .ok (.ifCond .ne 23, 3) := by decide +kernel
theorem dX8_isDrained_18 : decode cX8_isDrained 18 = .ok (.aload_n 0, 1) := by decide +kernel
theorem dX8_isDrained_19 : decode cX8_isDrained 19 = .ok (.iconst 1, 1) := by decide +kernel
theorem dX8_isDrained_20 : decode cX8_isDrained 20 = .ok (.invokevirtual 219, 3) := by decide +kernel
theorem dX8_isDrained_23 : decode cX8_isDrained 23 = .ok (.ifCond .ne 15, 3) := by decide +kernel
theorem dX8_isDrained_26 : decode cX8_isDrained 26 = .ok (.aload_n 0, 1) := by decide +kernel
theorem dX8_isDrained_27 : decode cX8_isDrained 27 = .ok (.iconst 2, 1) := by decide +kernel
theorem dX8_isDrained_28 : decode cX8_isDrained 28 = .ok (.invokevirtual 219, 3) := by decide +kernel
theorem dX8_isDrained_31 : decode cX8_isDrained 31 = .ok (.ifCond .ne 7, 3) := by decide +kernel
theorem dX8_isDrained_34 : decode cX8_isDrained 34 = .ok (.iconst 1, 1) := by decide +kernel
theorem dX8_isDrained_35 : decode cX8_isDrained 35 = .ok (.goto 4, 3) := by decide +kernel
theorem dX8_isDrained_38 : decode cX8_isDrained 38 = .ok (.iconst 0, 1) := by decide +kernel
theorem dX8_isDrained_39 : decode cX8_isDrained 39 = .ok (.ireturn, 1) := by decide +kernel
theorem dX8_drains_0 : decode cX8_drains 0 = .ok (.aload_n 0, 1) := by decide +kernel
theorem dX8_drains_1 : decode cX8_drains 1 = .ok (.invokevirtual 231, 3) := by decide +kernel
theorem dX8_drains_4 : decode cX8_drains 4 = .ok (.iconst 0, 1) := by decide +kernel
theorem dX8_drains_5 : decode cX8_drains 5 = .ok (.istore_n 1, 1) := by decide +kernel
theorem dX8_drains_6 : decode cX8_drains 6 = .ok (.iload_n 1, 1) := by decide +kernel
theorem dX8_drains_7 : decode cX8_drains 7 = .ok (.sipush 300, 3) := by decide +kernel
theorem dX8_drains_10 : decode cX8_drains 10 = .ok (.if_icmp .ge 20, 3) := by decide +kernel
theorem dX8_drains_13 : decode cX8_drains 13 = .ok (.aload_n 0, 1) := by decide +kernel
theorem dX8_drains_14 : decode cX8_drains 14 = .ok (.invokevirtual 234, 3) := by decide +kernel
theorem dX8_drains_17 : decode cX8_drains 17 = .ok (.ifCond .ne 13, 3) := by decide +kernel
theorem dX8_drains_20 : decode cX8_drains 20 = .ok (.aload_n 0, 1) := by decide +kernel
theorem dX8_drains_21 : decode cX8_drains 21 = .ok (.invokevirtual 145, 3) := by decide +kernel
theorem dX8_drains_24 : decode cX8_drains 24 = .ok (.iinc 1 1, 3) := by decide +kernel
theorem dX8_drains_27 : decode cX8_drains 27 = .ok (.goto (-21), 3) := by decide +kernel
theorem dX8_drains_30 : decode cX8_drains 30 = .ok (.aload_n 0, 1) := by decide +kernel
theorem dX8_drains_31 : decode cX8_drains 31 = .ok (.invokevirtual 234, 3) := by decide +kernel
theorem dX8_drains_34 : decode cX8_drains 34 = .ok (.istore_n 2, 1) := by decide +kernel
theorem dX8_drains_35 : decode cX8_drains 35 = .ok (.aload_n 0, 1) := by decide +kernel
theorem dX8_drains_36 : decode cX8_drains 36 = .ok (.invokevirtual 237, 3) := by decide +kernel
theorem dX8_drains_39 : decode cX8_drains 39 = .ok (.iload_n 2, 1) := by decide +kernel
theorem dX8_drains_40 : decode cX8_drains 40 = .ok (.ifCond .eq 7, 3) := by decide +kernel
theorem dX8_drains_43 : decode cX8_drains 43 = .ok (.iload_n 1, 1) := by decide +kernel
theorem dX8_drains_44 : decode cX8_drains 44 = .ok (.goto 4, 3) := by decide +kernel
theorem dX8_drains_47 : decode cX8_drains 47 = .ok (.iconst (-1), 1) := by decide +kernel
theorem dX8_drains_48 : decode cX8_drains 48 = .ok (.ireturn, 1) := by decide +kernel
theorem dX8_drainIn_0 : decode cX8_drainIn 0 = .ok (.aload_n 0, 1) := by decide +kernel
theorem dX8_drainIn_1 : decode cX8_drainIn 1 = .ok (.iconst 0, 1) := by decide +kernel
theorem dX8_drainIn_2 : decode cX8_drainIn 2 = .ok (.putfield 35, 3) := by decide +kernel
theorem dX8_drainIn_5 : decode cX8_drainIn 5 = .ok (.aload_n 0, 1) := by decide +kernel
theorem dX8_drainIn_6 : decode cX8_drainIn 6 = .ok (.invokevirtual 240, 3) := by decide +kernel
theorem dX8_drainIn_9 : decode cX8_drainIn 9 = .ok (.ireturn, 1) := by decide +kernel
theorem dX8_afterTicks_0 : decode cX8_afterTicks 0 = .ok (.iload_n 3, 1) := by decide +kernel
theorem dX8_afterTicks_1 : decode cX8_afterTicks 1 = .ok (.iconst 3, 1) := by decide +kernel
theorem dX8_afterTicks_2 : decode cX8_afterTicks 2 = .ok (.if_icmp .ne 7, 3) := by decide +kernel
theorem dX8_afterTicks_5 : decode cX8_afterTicks 5 = .ok (.iconst 0, 1) := by decide +kernel
theorem dX8_afterTicks_6 : decode cX8_afterTicks 6 = .ok (.goto 27, 3) := by decide +kernel
theorem dX8_afterTicks_9 : decode cX8_afterTicks 9 = .ok (.aload_n 0, 1) := by decide +kernel
theorem dX8_afterTicks_10 : decode cX8_afterTicks 10 = .ok (.iload_n 2, 1) := by decide +kernel
theorem dX8_afterTicks_11 : decode cX8_afterTicks 11 = .ok (.iload_n 3, 1) := by decide +kernel
theorem dX8_afterTicks_12 : decode cX8_afterTicks 12 = .ok (.ifCond .ne 7, 3) := by decide +kernel
theorem dX8_afterTicks_15 : decode cX8_afterTicks 15 = .ok (.iconst 3, 1) := by decide +kernel
theorem dX8_afterTicks_16 : decode cX8_afterTicks 16 = .ok (.goto 14, 3) := by decide +kernel
theorem dX8_afterTicks_19 : decode cX8_afterTicks 19 = .ok (.iload_n 3, 1) := by decide +kernel
theorem dX8_afterTicks_20 : decode cX8_afterTicks 20 = .ok (.iconst 1, 1) := by decide +kernel
theorem dX8_afterTicks_21 : decode cX8_afterTicks 21 = .ok (.if_icmp .ne 7, 3) := by decide +kernel
theorem dX8_afterTicks_24 : decode cX8_afterTicks 24 = .ok (.iconst 5, 1) := by decide +kernel
theorem dX8_afterTicks_25 : decode cX8_afterTicks 25 = .ok (.goto 5, 3) := by decide +kernel
theorem dX8_afterTicks_28 : decode cX8_afterTicks 28 = .ok (.bipush 6, 2) := by decide +kernel
theorem dX8_afterTicks_30 : decode cX8_afterTicks 30 = .ok (.invokevirtual 58, 3) := by decide +kernel
theorem dX8_afterTicks_33 : decode cX8_afterTicks 33 = .ok (.istore 4, 2) := by decide +kernel
theorem dX8_afterTicks_35 : decode cX8_afterTicks 35 = .ok (.aload_n 0, 1) := by decide +kernel
theorem dX8_afterTicks_36 : decode cX8_afterTicks 36 = .ok (.invokevirtual 231, 3) := by decide +kernel
theorem dX8_afterTicks_39 : decode cX8_afterTicks 39 = .ok (.aload_n 0, 1) := by decide +kernel
theorem dX8_afterTicks_40 : decode cX8_afterTicks 40 = .ok (.iload_n 1, 1) := by decide +kernel
theorem dX8_afterTicks_41 : decode cX8_afterTicks 41 = .ok (.invokevirtual 161, 3) := by decide +kernel
theorem dX8_afterTicks_44 : decode cX8_afterTicks 44 = .ok (.istore 5, 2) := by decide +kernel
theorem dX8_afterTicks_46 : decode cX8_afterTicks 46 = .ok (.aload_n 0, 1) := by decide +kernel
theorem dX8_afterTicks_47 : decode cX8_afterTicks 47 = .ok (.iload_n 2, 1) := by decide +kernel
theorem dX8_afterTicks_48 : decode cX8_afterTicks 48 = .ok (.iload_n 3, 1) := by decide +kernel
theorem dX8_afterTicks_49 : decode cX8_afterTicks 49 = .ok (.ifCond .ne 7, 3) := by decide +kernel
theorem dX8_afterTicks_52 : decode cX8_afterTicks 52 = .ok (.iconst 3, 1) := by decide +kernel
theorem dX8_afterTicks_53 : decode cX8_afterTicks 53 = .ok (.goto 24, 3) := by decide +kernel
theorem dX8_afterTicks_56 : decode cX8_afterTicks 56 = .ok (.iload_n 3, 1) := by decide +kernel
theorem dX8_afterTicks_57 : decode cX8_afterTicks 57 = .ok (.iconst 1, 1) := by decide +kernel
theorem dX8_afterTicks_58 : decode cX8_afterTicks 58 = .ok (.if_icmp .ne 7, 3) := by decide +kernel
theorem dX8_afterTicks_61 : decode cX8_afterTicks 61 = .ok (.iconst 5, 1) := by decide +kernel
theorem dX8_afterTicks_62 : decode cX8_afterTicks 62 = .ok (.goto 15, 3) := by decide +kernel
theorem dX8_afterTicks_65 : decode cX8_afterTicks 65 = .ok (.iload_n 3, 1) := by decide +kernel
theorem dX8_afterTicks_66 : decode cX8_afterTicks 66 = .ok (.iconst 2, 1) := by decide +kernel
theorem dX8_afterTicks_67 : decode cX8_afterTicks 67 = .ok (.if_icmp .ne 8, 3) := by decide +kernel
theorem dX8_afterTicks_70 : decode cX8_afterTicks 70 = .ok (.bipush 6, 2) := by decide +kernel
theorem dX8_afterTicks_72 : decode cX8_afterTicks 72 = .ok (.goto 5, 3) := by decide +kernel
theorem dX8_afterTicks_75 : decode cX8_afterTicks 75 = .ok (.bipush 8, 2) := by decide +kernel
theorem dX8_afterTicks_77 : decode cX8_afterTicks 77 = .ok (.invokevirtual 58, 3) := by decide +kernel
theorem dX8_afterTicks_80 : decode cX8_afterTicks 80 = .ok (.istore 6, 2) := by decide +kernel
theorem dX8_afterTicks_82 : decode cX8_afterTicks 82 = .ok (.aload_n 0, 1) := by decide +kernel
theorem dX8_afterTicks_83 : decode cX8_afterTicks 83 = .ok (.invokevirtual 237, 3) := by decide +kernel
theorem dX8_afterTicks_86 : decode cX8_afterTicks 86 = .ok (.iload 6, 2) := by decide +kernel
theorem dX8_afterTicks_88 : decode cX8_afterTicks 88 = .ok (.iload 4, 2) := by decide +kernel
theorem dX8_afterTicks_90 : decode cX8_afterTicks 90 = .ok (.isub, 1) := by decide +kernel
theorem dX8_afterTicks_91 : decode cX8_afterTicks 91 = .ok (.ireturn, 1) := by decide +kernel
theorem dX8_ifPassed_0 : decode cX8_ifPassed 0 = .ok (.aload_n 0, 1) := by decide +kernel
theorem dX8_ifPassed_1 : decode cX8_ifPassed 1 = .ok (.iconst 0, 1) := by decide +kernel
theorem dX8_ifPassed_2 : decode cX8_ifPassed 2 = .ok (.putfield 35, 3) := by decide +kernel
theorem dX8_ifPassed_5 : decode cX8_ifPassed 5 = .ok (.iload_n 2, 1) := by decide +kernel
theorem dX8_ifPassed_6 : decode cX8_ifPassed 6 = .ok (.iconst 0, 1) := by decide +kernel
theorem dX8_ifPassed_7 : decode cX8_ifPassed 7 = .ok (.iconst 2, 1) := by decide +kernel
theorem dX8_ifPassed_8 : decode cX8_ifPassed 8 = .ok (.invokestatic 39, 3) := by decide +kernel
theorem dX8_ifPassed_11 : decode cX8_ifPassed 11 = .ok (.ifCond .ne 9, 3) := by decide +kernel
theorem dX8_ifPassed_14 : decode cX8_ifPassed 14 = .ok (.aload_n 0, 1) := by decide +kernel
theorem dX8_ifPassed_15 : decode cX8_ifPassed 15 = .ok (.iconst 1, 1) := by decide +kernel
theorem dX8_ifPassed_16 : decode cX8_ifPassed 16 = .ok (.invokevirtual 73, 3) := by decide +kernel
theorem dX8_ifPassed_19 : decode cX8_ifPassed 19 = .ok (.ireturn, 1) := by decide +kernel
theorem dX8_ifPassed_20 : decode cX8_ifPassed 20 = .ok (.iload_n 1, 1) := by decide +kernel
theorem dX8_ifPassed_21 : decode cX8_ifPassed 21 = .ok (.iconst 1, 1) := by decide +kernel
theorem dX8_ifPassed_22 : decode cX8_ifPassed 22 = .ok (.bipush 99, 2) := by decide +kernel
theorem dX8_ifPassed_24 : decode cX8_ifPassed 24 = .ok (.invokestatic 39, 3) := by decide +kernel
theorem dX8_ifPassed_27 : decode cX8_ifPassed 27 = .ok (.ifCond .eq 12, 3) := by decide +kernel
theorem dX8_ifPassed_30 : decode cX8_ifPassed 30 = .ok (.iload_n 3, 1) := by decide +kernel
theorem dX8_ifPassed_31 : decode cX8_ifPassed 31 = .ok (.iconst 0, 1) := by decide +kernel
theorem dX8_ifPassed_32 : decode cX8_ifPassed 32 = .ok (.iconst 3, 1) := by decide +kernel
theorem dX8_ifPassed_33 : decode cX8_ifPassed 33 = .ok (.invokestatic 39, 3) := by decide +kernel
theorem dX8_ifPassed_36 : decode cX8_ifPassed 36 = .ok (.ifCond .ne 9, 3) := by decide +kernel
theorem dX8_ifPassed_39 : decode cX8_ifPassed 39 = .ok (.aload_n 0, 1) := by decide +kernel
theorem dX8_ifPassed_40 : decode cX8_ifPassed 40 = .ok (.iconst 2, 1) := by decide +kernel
theorem dX8_ifPassed_41 : decode cX8_ifPassed 41 = .ok (.invokevirtual 73, 3) := by decide +kernel
theorem dX8_ifPassed_44 : decode cX8_ifPassed 44 = .ok (.ireturn, 1) := by decide +kernel
theorem dX8_ifPassed_45 : decode cX8_ifPassed 45 = .ok (.aload_n 0, 1) := by decide +kernel
theorem dX8_ifPassed_46 : decode cX8_ifPassed 46 = .ok (.iload_n 1, 1) := by decide +kernel
theorem dX8_ifPassed_47 : decode cX8_ifPassed 47 = .ok (.iload_n 2, 1) := by decide +kernel
theorem dX8_ifPassed_48 : decode cX8_ifPassed 48 = .ok (.iload_n 3, 1) := by decide +kernel
theorem dX8_ifPassed_49 : decode cX8_ifPassed 49 = .ok (.invokevirtual 243, 3) := by decide +kernel
theorem dX8_ifPassed_52 : decode cX8_ifPassed 52 = .ok (.ireturn, 1) := by decide +kernel
theorem dX8_skipped_0 : decode cX8_skipped 0 = .ok (.aload_n 0, 1) := by decide +kernel
theorem dX8_skipped_1 : decode cX8_skipped 1 = .ok (.iload_n 1, 1) := by decide +kernel
theorem dX8_skipped_2 : decode cX8_skipped 2 = .ok (.invokevirtual 87, 3) := by decide +kernel
theorem dX8_skipped_5 : decode cX8_skipped 5 = .ok (.ifCond .ne 5, 3) := by decide +kernel
theorem dX8_skipped_8 : decode cX8_skipped 8 = .ok (.iconst (-1), 1) := by decide +kernel
theorem dX8_skipped_9 : decode cX8_skipped 9 = .ok (.ireturn, 1) := by decide +kernel
theorem dX8_skipped_10 : decode cX8_skipped 10 = .ok (.iconst 0, 1) := by decide +kernel
theorem dX8_skipped_11 : decode cX8_skipped 11 = .ok (.istore_n 3, 1) := by decide +kernel
theorem dX8_skipped_12 : decode cX8_skipped 12 = .ok (.iconst 0, 1) := by decide +kernel
theorem dX8_skipped_13 : decode cX8_skipped 13 = .ok (.istore 4, 2) := by decide +kernel
theorem dX8_skipped_15 : decode cX8_skipped 15 = .ok (.iload 4, 2) := by decide +kernel
theorem dX8_skipped_17 : decode cX8_skipped 17 = .ok (.aload_n 0, 1) := by decide +kernel
theorem dX8_skipped_18 : decode cX8_skipped 18 = .ok (.iload_n 1, 1) := by decide +kernel
theorem dX8_skipped_19 : decode cX8_skipped 19 = .ok (.iconst 1, 1) := by decide +kernel
theorem dX8_skipped_20 : decode cX8_skipped 20 = .ok (.invokevirtual 43, 3) := by decide +kernel
theorem dX8_skipped_23 : decode cX8_skipped 23 = .ok (.if_icmp .ge 83, 3) := by decide +kernel
theorem dX8_skipped_26 : decode cX8_skipped 26 = .ok (.aload_n 0, 1) := by decide +kernel
theorem dX8_skipped_27 : decode cX8_skipped 27 = .ok (.getfield 7, 3) := by decide +kernel
theorem dX8_skipped_30 : decode cX8_skipped 30 = .ok (.bipush 10, 2) := by decide +kernel
theorem dX8_skipped_32 : decode cX8_skipped 32 = .ok (.iaload, 1) := by decide +kernel
theorem dX8_skipped_33 : decode cX8_skipped 33 = .ok (.ifCond .ne 15, 3) := by decide +kernel
theorem dX8_skipped_36 : decode cX8_skipped 36 = .ok (.aload_n 0, 1) := by decide +kernel
theorem dX8_skipped_37 : decode cX8_skipped 37 = .ok (.getfield 7, 3) := by decide +kernel
theorem dX8_skipped_40 : decode cX8_skipped 40 = .ok (.iconst 2, 1) := by decide +kernel
theorem dX8_skipped_41 : decode cX8_skipped 41 = .ok (.iaload, 1) := by decide +kernel
theorem dX8_skipped_42 : decode cX8_skipped 42 = .ok (.iload 4, 2) := by decide +kernel
theorem dX8_skipped_44 : decode cX8_skipped 44 = .ok (.iadd, 1) := by decide +kernel
theorem dX8_skipped_45 : decode cX8_skipped 45 = .ok (.goto 14, 3) := by decide +kernel
theorem dX8_skipped_48 : decode cX8_skipped 48 = .ok (.aload_n 0, 1) := by decide +kernel
theorem dX8_skipped_49 : decode cX8_skipped 49 = .ok (.iload_n 1, 1) := by decide +kernel
theorem dX8_skipped_50 : decode cX8_skipped 50 = .ok (.iconst 4, 1) := by decide +kernel
theorem dX8_skipped_51 : decode cX8_skipped 51 = .ok (.iconst 3, 1) := by decide +kernel
theorem dX8_skipped_52 : decode cX8_skipped 52 = .ok (.iload 4, 2) := by decide +kernel
theorem dX8_skipped_54 : decode cX8_skipped 54 = .ok (.imul, 1) := by decide +kernel
theorem dX8_skipped_55 : decode cX8_skipped 55 = .ok (.iadd, 1) := by decide +kernel
theorem dX8_skipped_56 : decode cX8_skipped 56 = .ok (.invokevirtual 43, 3) := by decide +kernel
theorem dX8_skipped_59 : decode cX8_skipped 59 = .ok (.istore 5, 2) := by decide +kernel
theorem dX8_skipped_61 : decode cX8_skipped 61 = .ok (.iload_n 3, 1) := by decide +kernel
theorem dX8_skipped_62 : decode cX8_skipped 62 = .ok (.aload_n 0, 1) := by decide +kernel
theorem dX8_skipped_63 : decode cX8_skipped 63 = .ok (.iload_n 2, 1) := by decide +kernel
theorem dX8_skipped_64 : decode cX8_skipped 64 = .ok (.aload_n 0, 1) := by decide +kernel
theorem dX8_skipped_65 : decode cX8_skipped 65 = .ok (.iload_n 1, 1) := by decide +kernel
theorem dX8_skipped_66 : decode cX8_skipped 66 = .ok (.iconst 2, 1) := by decide +kernel
theorem dX8_skipped_67 : decode cX8_skipped 67 = .ok (.iconst 3, 1) := by decide +kernel
theorem dX8_skipped_68 : decode cX8_skipped 68 = .ok (.iload 4, 2) := by decide +kernel
theorem dX8_skipped_70 : decode cX8_skipped 70 = .ok (.imul, 1) := by decide +kernel
theorem dX8_skipped_71 : decode cX8_skipped 71 = .ok (.iadd, 1) := by decide +kernel
theorem dX8_skipped_72 : decode cX8_skipped 72 = .ok (.invokevirtual 43, 3) := by decide +kernel
theorem dX8_skipped_75 : decode cX8_skipped 75 = .ok (.invokevirtual 64, 3) := by decide +kernel
theorem dX8_skipped_78 : decode cX8_skipped 78 = .ok (.ifCond .eq 19, 3) := by decide +kernel
theorem dX8_skipped_81 : decode cX8_skipped 81 = .ok (.iload 5, 2) := by decide +kernel
theorem dX8_skipped_83 : decode cX8_skipped 83 = .ok (.aload_n 0, 1) := by decide +kernel
theorem dX8_skipped_84 : decode cX8_skipped 84 = .ok (.iload_n 2, 1) := by decide +kernel
theorem dX8_skipped_85 : decode cX8_skipped 85 = .ok (.bipush 8, 2) := by decide +kernel
theorem dX8_skipped_87 : decode cX8_skipped 87 = .ok (.invokevirtual 58, 3) := by decide +kernel
theorem dX8_skipped_90 : decode cX8_skipped 90 = .ok (.if_icmp .gt 7, 3) := by decide +kernel
theorem dX8_skipped_93 : decode cX8_skipped 93 = .ok (.iconst 1, 1) := by decide +kernel
theorem dX8_skipped_94 : decode cX8_skipped 94 = .ok (.goto 4, 3) := by decide +kernel
theorem dX8_skipped_97 : decode cX8_skipped 97 = .ok (.iconst 0, 1) := by decide +kernel
theorem dX8_skipped_98 : decode cX8_skipped 98 = .ok (.iadd, 1) := by decide +kernel
theorem dX8_skipped_99 : decode cX8_skipped 99 = .ok (.istore_n 3, 1) := by decide +kernel
theorem dX8_skipped_100 : decode cX8_skipped 100 = .ok (.iinc 4 1, 3) := by decide +kernel
theorem dX8_skipped_103 : decode cX8_skipped 103 = .ok (.goto (-88), 3) := by decide +kernel
theorem dX8_skipped_106 : decode cX8_skipped 106 = .ok (.iload_n 3, 1) := by decide +kernel
theorem dX8_skipped_107 : decode cX8_skipped 107 = .ok (.ireturn, 1) := by decide +kernel
theorem dX8_skips_0 : decode cX8_skips 0 = .ok (.aload_n 0, 1) := by decide +kernel
theorem dX8_skips_1 : decode cX8_skips 1 = .ok (.iconst 0, 1) := by decide +kernel
theorem dX8_skips_2 : decode cX8_skips 2 = .ok (.putfield 35, 3) := by decide +kernel
theorem dX8_skips_5 : decode cX8_skips 5 = .ok (.iload_n 1, 1) := by decide +kernel
theorem dX8_skips_6 : decode cX8_skips 6 = .ok (.iconst 0, 1) := by decide +kernel
theorem dX8_skips_7 : decode cX8_skips 7 = .ok (.iconst 3, 1) := by decide +kernel
theorem dX8_skips_8 : decode cX8_skips 8 = .ok (.invokestatic 39, 3) := by decide +kernel
theorem dX8_skips_11 : decode cX8_skips 11 = .ok (.ifCond .eq 21, 3) := by decide +kernel
theorem dX8_skips_14 : decode cX8_skips 14 = .ok (.iload_n 2, 1) := by decide +kernel
theorem dX8_skips_15 : decode cX8_skips 15 = .ok (.iconst 0, 1) := by decide +kernel
theorem dX8_skips_16 : decode cX8_skips 16 = .ok (.iconst 2, 1) := by decide +kernel
theorem dX8_skips_17 : decode cX8_skips 17 = .ok (.invokestatic 39, 3) := by decide +kernel
theorem dX8_skips_20 : decode cX8_skips 20 = .ok (.ifCond .eq 12, 3) := by decide +kernel
theorem dX8_skips_23 : decode cX8_skips 23 = .ok (.aload_n 0, 1) := by decide +kernel
theorem dX8_skips_24 : decode cX8_skips 24 = .ok (.iload_n 1, 1) := by decide +kernel
theorem dX8_skips_25 : decode cX8_skips 25 = .ok (.iload_n 2, 1) := by decide +kernel
theorem dX8_skips_26 : decode cX8_skips 26 = .ok (.invokevirtual 246, 3) := by decide +kernel
theorem dX8_skips_29 : decode cX8_skips 29 = .ok (.goto 8, 3) := by decide +kernel
theorem dX8_skips_32 : decode cX8_skips 32 = .ok (.aload_n 0, 1) := by decide +kernel
theorem dX8_skips_33 : decode cX8_skips 33 = .ok (.iconst 1, 1) := by decide +kernel
theorem dX8_skips_34 : decode cX8_skips 34 = .ok (.invokevirtual 73, 3) := by decide +kernel
theorem dX8_skips_37 : decode cX8_skips 37 = .ok (.ireturn, 1) := by decide +kernel
theorem dX8_farthest_0 : decode cX8_farthest 0 = .ok (.iconst (-1), 1) := by decide +kernel
theorem dX8_farthest_1 : decode cX8_farthest 1 = .ok (.istore_n 1, 1) := by decide +kernel
theorem dX8_farthest_2 : decode cX8_farthest 2 = .ok (.iconst 0, 1) := by decide +kernel
theorem dX8_farthest_3 : decode cX8_farthest 3 = .ok (.istore_n 2, 1) := by decide +kernel
theorem dX8_farthest_4 : decode cX8_farthest 4 = .ok (.iload_n 2, 1) := by decide +kernel
theorem dX8_farthest_5 : decode cX8_farthest 5 = .ok (.iconst 3, 1) := by decide +kernel
theorem dX8_farthest_6 : decode cX8_farthest 6 = .ok (.if_icmp .ge 37, 3) := by decide +kernel
theorem dX8_farthest_9 : decode cX8_farthest 9 = .ok (.aload_n 0, 1) := by decide +kernel
theorem dX8_farthest_10 : decode cX8_farthest 10 = .ok (.iload_n 2, 1) := by decide +kernel
theorem dX8_farthest_11 : decode cX8_farthest 11 = .ok (.invokevirtual 219, 3) := by decide +kernel
theorem dX8_farthest_14 : decode cX8_farthest 14 = .ok (.iload_n 1, 1) := by decide +kernel
theorem dX8_farthest_15 : decode cX8_farthest 15 = .ok (.iconst (-1), 1) := by decide +kernel
theorem dX8_farthest_16 : decode cX8_farthest 16 = .ok (.if_icmp .ne 7, 3) := by decide +kernel
theorem dX8_farthest_19 : decode cX8_farthest 19 = .ok (.iconst 0, 1) := by decide +kernel
theorem dX8_farthest_20 : decode cX8_farthest 20 = .ok (.goto 8, 3) := by decide +kernel
theorem dX8_farthest_23 : decode cX8_farthest 23 = .ok (.aload_n 0, 1) := by decide +kernel
theorem dX8_farthest_24 : decode cX8_farthest 24 = .ok (.iload_n 1, 1) := by decide +kernel
theorem dX8_farthest_25 : decode cX8_farthest 25 = .ok (.invokevirtual 219, 3) := by decide +kernel
theorem dX8_farthest_28 : decode cX8_farthest 28 = .ok (.if_icmp .le 7, 3) := by decide +kernel
theorem dX8_farthest_31 : decode cX8_farthest 31 = .ok (.iload_n 2, 1) := by decide +kernel
theorem dX8_farthest_32 : decode cX8_farthest 32 = .ok (.goto 4, 3) := by decide +kernel
theorem dX8_farthest_35 : decode cX8_farthest 35 = .ok (.iload_n 1, 1) := by decide +kernel
theorem dX8_farthest_36 : decode cX8_farthest 36 = .ok (.istore_n 1, 1) := by decide +kernel
theorem dX8_farthest_37 : decode cX8_farthest 37 = .ok (.iinc 2 1, 3) := by decide +kernel
theorem dX8_farthest_40 : decode cX8_farthest 40 = .ok (.goto (-36), 3) := by decide +kernel
theorem dX8_farthest_43 : decode cX8_farthest 43 = .ok (.iload_n 1, 1) := by decide +kernel
theorem dX8_farthest_44 : decode cX8_farthest 44 = .ok (.ireturn, 1) := by decide +kernel
theorem dX8_slowest_0 : decode cX8_slowest 0 = .ok (.aload_n 0, 1) := by decide +kernel
theorem dX8_slowest_1 : decode cX8_slowest 1 = .ok (.iconst 0, 1) := by decide +kernel
theorem dX8_slowest_2 : decode cX8_slowest 2 = .ok (.putfield 35, 3) := by decide +kernel
theorem dX8_slowest_5 : decode cX8_slowest 5 = .ok (.aload_n 0, 1) := by decide +kernel
theorem dX8_slowest_6 : decode cX8_slowest 6 = .ok (.invokevirtual 249, 3) := by decide +kernel
theorem dX8_slowest_9 : decode cX8_slowest 9 = .ok (.ireturn, 1) := by decide +kernel
theorem dX8_good_0 : decode cX8_good 0 = .ok (.aload_n 0, 1) := by decide +kernel
theorem dX8_good_1 : decode cX8_good 1 = .ok (.getfield 7, 3) := by decide +kernel
theorem dX8_good_4 : decode cX8_good 4 = .ok (.iconst 4, 1) := by decide +kernel
theorem dX8_good_5 : decode cX8_good 5 = .ok (.iaload, 1) := by decide +kernel
theorem dX8_good_6 : decode cX8_good 6 = .ok (.ifCond .ne 7, 3) := by decide +kernel
theorem dX8_good_9 : decode cX8_good 9 = .ok (.dconst 1, 1) := by decide +kernel
theorem dX8_good_10 : decode cX8_good 10 = .ok (.goto 25, 3) := by decide +kernel
theorem dX8_good_13 : decode cX8_good 13 = .ok (.aload_n 0, 1) := by decide +kernel
theorem dX8_good_14 : decode cX8_good 14 = .ok (.getfield 7, 3) := by decide +kernel
theorem dX8_good_17 : decode cX8_good 17 = .ok (.iconst 4, 1) := by decide +kernel
theorem dX8_good_18 : decode cX8_good 18 = .ok (.iaload, 1) := by decide +kernel
theorem dX8_good_19 : decode cX8_good 19 = .ok (.aload_n 0, 1) := by decide +kernel
theorem dX8_good_20 : decode cX8_good 20 = .ok (.getfield 7, 3) := by decide +kernel
theorem dX8_good_23 : decode cX8_good 23 = .ok (.iconst 5, 1) := by decide +kernel
theorem dX8_good_24 : decode cX8_good 24 = .ok (.iaload, 1) := by decide +kernel
theorem dX8_good_25 : decode cX8_good 25 = .ok (.isub, 1) := by decide +kernel
theorem dX8_good_26 : decode cX8_good 26 = .ok (.i2d, 1) := by decide +kernel
theorem dX8_good_27 : decode cX8_good 27 = .ok (.aload_n 0, 1) := by decide +kernel
theorem dX8_good_28 : decode cX8_good 28 = .ok (.getfield 7, 3) := by decide +kernel
theorem dX8_good_31 : decode cX8_good 31 = .ok (.iconst 4, 1) := by decide +kernel
theorem dX8_good_32 : decode cX8_good 32 = .ok (.iaload, 1) := by decide +kernel
theorem dX8_good_33 : decode cX8_good 33 = .ok (.i2d, 1) := by decide +kernel
theorem dX8_good_34 : decode cX8_good 34 = .ok (.ddiv, 1) := by decide +kernel
theorem dX8_good_35 : decode cX8_good 35 = .ok (.dreturn, 1) := by decide +kernel
theorem dX8_goodShare_0 : decode cX8_goodShare 0 = .ok (.aload_n 0, 1) := by decide +kernel
theorem dX8_goodShare_1 : decode cX8_goodShare 1 = .ok (.iconst 0, 1) := by decide +kernel
theorem dX8_goodShare_2 : decode cX8_goodShare 2 = .ok (.putfield 35, 3) := by decide +kernel
theorem dX8_goodShare_5 : decode cX8_goodShare 5 = .ok (.aload_n 0, 1) := by decide +kernel
theorem dX8_goodShare_6 : decode cX8_goodShare 6 = .ok (.invokevirtual 252, 3) := by decide +kernel
theorem dX8_goodShare_9 : decode cX8_goodShare 9 = .ok (.dreturn, 1) := by decide +kernel
theorem dX8_mean_0 : decode cX8_mean 0 = .ok (.aload_n 0, 1) := by decide +kernel
theorem dX8_mean_1 : decode cX8_mean 1 = .ok (.getfield 7, 3) := by decide +kernel
theorem dX8_mean_4 : decode cX8_mean 4 = .ok (.bipush 6, 2) := by decide +kernel
theorem dX8_mean_6 : decode cX8_mean 6 = .ok (.iaload, 1) := by decide +kernel
theorem dX8_mean_7 : decode cX8_mean 7 = .ok (.ifCond .ne 7, 3) := by decide +kernel
theorem dX8_mean_10 : decode cX8_mean 10 = .ok (.fconst 0, 1) := by decide +kernel
theorem dX8_mean_11 : decode cX8_mean 11 = .ok (.goto 20, 3) := by decide +kernel
theorem dX8_mean_14 : decode cX8_mean 14 = .ok (.aload_n 0, 1) := by decide +kernel
theorem dX8_mean_15 : decode cX8_mean 15 = .ok (.getfield 7, 3) := by decide +kernel
theorem dX8_mean_18 : decode cX8_mean 18 = .ok (.bipush 8, 2) := by decide +kernel
theorem dX8_mean_20 : decode cX8_mean 20 = .ok (.iaload, 1) := by decide +kernel
theorem dX8_mean_21 : decode cX8_mean 21 = .ok (.i2f, 1) := by decide +kernel
theorem dX8_mean_22 : decode cX8_mean 22 = .ok (.aload_n 0, 1) := by decide +kernel
theorem dX8_mean_23 : decode cX8_mean 23 = .ok (.getfield 7, 3) := by decide +kernel
theorem dX8_mean_26 : decode cX8_mean 26 = .ok (.bipush 6, 2) := by decide +kernel
theorem dX8_mean_28 : decode cX8_mean 28 = .ok (.iaload, 1) := by decide +kernel
theorem dX8_mean_29 : decode cX8_mean 29 = .ok (.i2f, 1) := by decide +kernel
theorem dX8_mean_30 : decode cX8_mean 30 = .ok (.fdiv, 1) := by decide +kernel
theorem dX8_mean_31 : decode cX8_mean 31 = .ok (.freturn, 1) := by decide +kernel
theorem dX8_meanBatch_0 : decode cX8_meanBatch 0 = .ok (.aload_n 0, 1) := by decide +kernel
theorem dX8_meanBatch_1 : decode cX8_meanBatch 1 = .ok (.iconst 0, 1) := by decide +kernel
theorem dX8_meanBatch_2 : decode cX8_meanBatch 2 = .ok (.putfield 35, 3) := by decide +kernel
theorem dX8_meanBatch_5 : decode cX8_meanBatch 5 = .ok (.aload_n 0, 1) := by decide +kernel
theorem dX8_meanBatch_6 : decode cX8_meanBatch 6 = .ok (.invokevirtual 256, 3) := by decide +kernel
theorem dX8_meanBatch_9 : decode cX8_meanBatch 9 = .ok (.freturn, 1) := by decide +kernel
theorem dX8_ofRows_0 : decode cX8_ofRows 0 = .ok (.lload_n 1, 1) := by decide +kernel
theorem dX8_ofRows_1 : decode cX8_ofRows 1 = .ok (.lstore_n 3, 1) := by decide +kernel
theorem dX8_ofRows_2 : decode cX8_ofRows 2 = .ok (.aload_n 0, 1) := by decide +kernel
theorem dX8_ofRows_3 : decode cX8_ofRows 3 = .ok (.iconst (-1), 1) := by decide +kernel
theorem dX8_ofRows_4 : decode cX8_ofRows 4 = .ok (.invokevirtual 124, 3) := by decide +kernel
theorem dX8_ofRows_7 : decode cX8_ofRows 7 = .ok (.istore 5, 2) := by decide +kernel
theorem dX8_ofRows_9 : decode cX8_ofRows 9 = .ok (.iload 5, 2) := by decide +kernel
theorem dX8_ofRows_11 : decode cX8_ofRows 11 = .ok (.iconst (-1), 1) := by decide +kernel
theorem dX8_ofRows_12 : decode cX8_ofRows 12 = .ok (.if_icmp .eq 139, 3) := by decide +kernel
theorem dX8_ofRows_15 : decode cX8_ofRows 15 = .ok (.ldc2_w 260, 3) := by decide +kernel
theorem dX8_ofRows_18 : decode cX8_ofRows 18 = .ok (.lload_n 3, 1) := by decide +kernel
theorem dX8_ofRows_19 : decode cX8_ofRows 19 = .ok (.lmul, 1) := by decide +kernel
theorem dX8_ofRows_20 : decode cX8_ofRows 20 = .ok (.aload_n 0, 1) := by decide +kernel
theorem dX8_ofRows_21 : decode cX8_ofRows 21 = .ok (.iload 5, 2) := by decide +kernel
theorem dX8_ofRows_23 : decode cX8_ofRows 23 = .ok (.invokevirtual 55, 3) := by decide +kernel
theorem dX8_ofRows_26 : decode cX8_ofRows 26 = .ok (.i2l, 1) := by decide +kernel
theorem dX8_ofRows_27 : decode cX8_ofRows 27 = .ok (.ladd, 1) := by decide +kernel
theorem dX8_ofRows_28 : decode cX8_ofRows 28 = .ok (.lstore_n 3, 1) := by decide +kernel
theorem dX8_ofRows_29 : decode cX8_ofRows 29 = .ok (.ldc2_w 260, 3) := by decide +kernel
theorem dX8_ofRows_32 : decode cX8_ofRows 32 = .ok (.lload_n 3, 1) := by decide +kernel
theorem dX8_ofRows_33 : decode cX8_ofRows 33 = .ok (.lmul, 1) := by decide +kernel
theorem dX8_ofRows_34 : decode cX8_ofRows 34 = .ok (.aload_n 0, 1) := by decide +kernel
theorem dX8_ofRows_35 : decode cX8_ofRows 35 = .ok (.iload 5, 2) := by decide +kernel
theorem dX8_ofRows_37 : decode cX8_ofRows 37 = .ok (.invokevirtual 47, 3) := by decide +kernel
theorem dX8_ofRows_40 : decode cX8_ofRows 40 = .ok (.i2l, 1) := by decide +kernel
theorem dX8_ofRows_41 : decode cX8_ofRows 41 = .ok (.ladd, 1) := by decide +kernel
theorem dX8_ofRows_42 : decode cX8_ofRows 42 = .ok (.lstore_n 3, 1) := by decide +kernel
theorem dX8_ofRows_43 : decode cX8_ofRows 43 = .ok (.ldc2_w 260, 3) := by decide +kernel
theorem dX8_ofRows_46 : decode cX8_ofRows 46 = .ok (.lload_n 3, 1) := by decide +kernel
theorem dX8_ofRows_47 : decode cX8_ofRows 47 = .ok (.lmul, 1) := by decide +kernel
theorem dX8_ofRows_48 : decode cX8_ofRows 48 = .ok (.iload 5, 2) := by decide +kernel
theorem dX8_ofRows_50 : decode cX8_ofRows 50 = .ok (.i2l, 1) := by decide +kernel
theorem dX8_ofRows_51 : decode cX8_ofRows 51 = .ok (.ladd, 1) := by decide +kernel
theorem dX8_ofRows_52 : decode cX8_ofRows 52 = .ok (.lstore_n 3, 1) := by decide +kernel
theorem dX8_ofRows_53 : decode cX8_ofRows 53 = .ok (.ldc2_w 260, 3) := by decide +kernel
theorem dX8_ofRows_56 : decode cX8_ofRows 56 = .ok (.lload_n 3, 1) := by decide +kernel
theorem dX8_ofRows_57 : decode cX8_ofRows 57 = .ok (.lmul, 1) := by decide +kernel
theorem dX8_ofRows_58 : decode cX8_ofRows 58 = .ok (.aload_n 0, 1) := by decide +kernel
theorem dX8_ofRows_59 : decode cX8_ofRows 59 = .ok (.iload 5, 2) := by decide +kernel
theorem dX8_ofRows_61 : decode cX8_ofRows 61 = .ok (.invokevirtual 61, 3) := by decide +kernel
theorem dX8_ofRows_64 : decode cX8_ofRows 64 = .ok (.i2l, 1) := by decide +kernel
theorem dX8_ofRows_65 : decode cX8_ofRows 65 = .ok (.ladd, 1) := by decide +kernel
theorem dX8_ofRows_66 : decode cX8_ofRows 66 = .ok (.lstore_n 3, 1) := by decide +kernel
theorem dX8_ofRows_67 : decode cX8_ofRows 67 = .ok (.ldc2_w 260, 3) := by decide +kernel
theorem dX8_ofRows_70 : decode cX8_ofRows 70 = .ok (.lload_n 3, 1) := by decide +kernel
theorem dX8_ofRows_71 : decode cX8_ofRows 71 = .ok (.lmul, 1) := by decide +kernel
theorem dX8_ofRows_72 : decode cX8_ofRows 72 = .ok (.aload_n 0, 1) := by decide +kernel
theorem dX8_ofRows_73 : decode cX8_ofRows 73 = .ok (.iload 5, 2) := by decide +kernel
theorem dX8_ofRows_75 : decode cX8_ofRows 75 = .ok (.invokevirtual 104, 3) := by decide +kernel
theorem dX8_ofRows_78 : decode cX8_ofRows 78 = .ok (.i2l, 1) := by decide +kernel
theorem dX8_ofRows_79 : decode cX8_ofRows 79 = .ok (.ladd, 1) := by decide +kernel
theorem dX8_ofRows_80 : decode cX8_ofRows 80 = .ok (.lstore_n 3, 1) := by decide +kernel
theorem dX8_ofRows_81 : decode cX8_ofRows 81 = .ok (.ldc2_w 260, 3) := by decide +kernel
theorem dX8_ofRows_84 : decode cX8_ofRows 84 = .ok (.lload_n 3, 1) := by decide +kernel
theorem dX8_ofRows_85 : decode cX8_ofRows 85 = .ok (.lmul, 1) := by decide +kernel
theorem dX8_ofRows_86 : decode cX8_ofRows 86 = .ok (.aload_n 0, 1) := by decide +kernel
theorem dX8_ofRows_87 : decode cX8_ofRows 87 = .ok (.getfield 7, 3) := by decide +kernel
theorem dX8_ofRows_90 : decode cX8_ofRows 90 = .ok (.bipush 97, 2) := by decide +kernel
theorem dX8_ofRows_92 : decode cX8_ofRows 92 = .ok (.iconst 3, 1) := by decide +kernel
theorem dX8_ofRows_93 : decode cX8_ofRows 93 = .ok (.iload 5, 2) := by decide +kernel
theorem dX8_ofRows_95 : decode cX8_ofRows 95 = .ok (.imul, 1) := by decide +kernel
theorem dX8_ofRows_96 : decode cX8_ofRows 96 = .ok (.iadd, 1) := by decide +kernel
theorem dX8_ofRows_97 : decode cX8_ofRows 97 = .ok (.iconst 2, 1) := by decide +kernel
theorem dX8_ofRows_98 : decode cX8_ofRows 98 = .ok (.iadd, 1) := by decide +kernel
theorem dX8_ofRows_99 : decode cX8_ofRows 99 = .ok (.iaload, 1) := by decide +kernel
theorem dX8_ofRows_100 : decode cX8_ofRows 100 = .ok (.iconst 1, 1) := by decide +kernel
theorem dX8_ofRows_101 : decode cX8_ofRows 101 = .ok (.ishr, 1) := by decide +kernel
theorem dX8_ofRows_102 : decode cX8_ofRows 102 = .ok (.bipush 7, 2) := by decide +kernel
theorem dX8_ofRows_104 : decode cX8_ofRows 104 = .ok (.iand, 1) := by decide +kernel
theorem dX8_ofRows_105 : decode cX8_ofRows 105 = .ok (.i2l, 1) := by decide +kernel
theorem dX8_ofRows_106 : decode cX8_ofRows 106 = .ok (.ladd, 1) := by decide +kernel
theorem dX8_ofRows_107 : decode cX8_ofRows 107 = .ok (.lstore_n 3, 1) := by decide +kernel
theorem dX8_ofRows_108 : decode cX8_ofRows 108 = .ok (.ldc2_w 260, 3) := by decide +kernel
theorem dX8_ofRows_111 : decode cX8_ofRows 111 = .ok (.lload_n 3, 1) := by decide +kernel
theorem dX8_ofRows_112 : decode cX8_ofRows 112 = .ok (.lmul, 1) := by decide +kernel
theorem dX8_ofRows_113 : decode cX8_ofRows 113 = .ok (.aload_n 0, 1) := by decide +kernel
theorem dX8_ofRows_114 : decode cX8_ofRows 114 = .ok (.iload 5, 2) := by decide +kernel
theorem dX8_ofRows_116 : decode cX8_ofRows 116 = .ok (.invokevirtual 94, 3) := by decide +kernel
theorem dX8_ofRows_119 : decode cX8_ofRows 119 = .ok (.i2l, 1) := by decide +kernel
theorem dX8_ofRows_120 : decode cX8_ofRows 120 = .ok (.ladd, 1) := by decide +kernel
theorem dX8_ofRows_121 : decode cX8_ofRows 121 = .ok (.lstore_n 3, 1) := by decide +kernel
theorem dX8_ofRows_122 : decode cX8_ofRows 122 = .ok (.ldc2_w 260, 3) := by decide +kernel
theorem dX8_ofRows_125 : decode cX8_ofRows 125 = .ok (.lload_n 3, 1) := by decide +kernel
theorem dX8_ofRows_126 : decode cX8_ofRows 126 = .ok (.lmul, 1) := by decide +kernel
theorem dX8_ofRows_127 : decode cX8_ofRows 127 = .ok (.aload_n 0, 1) := by decide +kernel
theorem dX8_ofRows_128 : decode cX8_ofRows 128 = .ok (.iload 5, 2) := by decide +kernel
theorem dX8_ofRows_130 : decode cX8_ofRows 130 = .ok (.invokevirtual 213, 3) := by decide +kernel
theorem dX8_ofRows_133 : decode cX8_ofRows 133 = .ok (.i2l, 1) := by decide +kernel
theorem dX8_ofRows_134 : decode cX8_ofRows 134 = .ok (.ladd, 1) := by decide +kernel
theorem dX8_ofRows_135 : decode cX8_ofRows 135 = .ok (.lstore_n 3, 1) := by decide +kernel
theorem dX8_ofRows_136 : decode cX8_ofRows 136 = .ok (.aload_n 0, 1) := by decide +kernel
theorem dX8_ofRows_137 : decode cX8_ofRows 137 = .ok (.aload_n 0, 1) := by decide +kernel
theorem dX8_ofRows_138 : decode cX8_ofRows 138 = .ok (.iload 5, 2) := by decide +kernel
theorem dX8_ofRows_140 : decode cX8_ofRows 140 = .ok (.invokevirtual 55, 3) := by decide +kernel
theorem dX8_ofRows_143 : decode cX8_ofRows 143 = .ok (.invokevirtual 124, 3) := by decide +kernel
theorem dX8_ofRows_146 : decode cX8_ofRows 146 = .ok (.istore 5, 2) := by decide +kernel
theorem dX8_ofRows_148 : decode cX8_ofRows 148 = .ok (.goto (-139), 3) := by decide +kernel
theorem dX8_ofRows_151 : decode cX8_ofRows 151 = .ok (.lload_n 3, 1) := by decide +kernel
theorem dX8_ofRows_152 : decode cX8_ofRows 152 = .ok (.lreturn, 1) := by decide +kernel
theorem dX8_ofPlaces_0 : decode cX8_ofPlaces 0 = .ok (.lload_n 1, 1) := by decide +kernel
theorem dX8_ofPlaces_1 : decode cX8_ofPlaces 1 = .ok (.lstore_n 3, 1) := by decide +kernel
theorem dX8_ofPlaces_2 : decode cX8_ofPlaces 2 = .ok (.iconst 0, 1) := by decide +kernel
theorem dX8_ofPlaces_3 : decode cX8_ofPlaces 3 = .ok (.istore 5, 2) := by decide +kernel
theorem dX8_ofPlaces_5 : decode cX8_ofPlaces 5 = .ok (.iload 5, 2) := by decide +kernel
theorem dX8_ofPlaces_7 : decode cX8_ofPlaces 7 = .ok (.iconst 4, 1) := by decide +kernel
theorem dX8_ofPlaces_8 : decode cX8_ofPlaces 8 = .ok (.if_icmp .ge 71, 3) := by decide +kernel
theorem dX8_ofPlaces_11 : decode cX8_ofPlaces 11 = .ok (.iconst 0, 1) := by decide +kernel
theorem dX8_ofPlaces_12 : decode cX8_ofPlaces 12 = .ok (.istore 6, 2) := by decide +kernel
theorem dX8_ofPlaces_14 : decode cX8_ofPlaces 14 = .ok (.iload 6, 2) := by decide +kernel
theorem dX8_ofPlaces_16 : decode cX8_ofPlaces 16 = .ok (.iconst 3, 1) := by decide +kernel
theorem dX8_ofPlaces_17 : decode cX8_ofPlaces 17 = .ok (.if_icmp .ge 25, 3) := by decide +kernel
theorem dX8_ofPlaces_20 : decode cX8_ofPlaces 20 = .ok (.ldc2_w 260, 3) := by decide +kernel
theorem dX8_ofPlaces_23 : decode cX8_ofPlaces 23 = .ok (.lload_n 3, 1) := by decide +kernel
theorem dX8_ofPlaces_24 : decode cX8_ofPlaces 24 = .ok (.lmul, 1) := by decide +kernel
theorem dX8_ofPlaces_25 : decode cX8_ofPlaces 25 = .ok (.aload_n 0, 1) := by decide +kernel
theorem dX8_ofPlaces_26 : decode cX8_ofPlaces 26 = .ok (.iload 5, 2) := by decide +kernel
theorem dX8_ofPlaces_28 : decode cX8_ofPlaces 28 = .ok (.iload 6, 2) := by decide +kernel
theorem dX8_ofPlaces_30 : decode cX8_ofPlaces 30 = .ok (.invokevirtual 262, 3) := by decide +kernel
theorem dX8_ofPlaces_33 : decode cX8_ofPlaces 33 = .ok (.i2l, 1) := by decide +kernel
theorem dX8_ofPlaces_34 : decode cX8_ofPlaces 34 = .ok (.ladd, 1) := by decide +kernel
theorem dX8_ofPlaces_35 : decode cX8_ofPlaces 35 = .ok (.lstore_n 3, 1) := by decide +kernel
theorem dX8_ofPlaces_36 : decode cX8_ofPlaces 36 = .ok (.iinc 6 1, 3) := by decide +kernel
theorem dX8_ofPlaces_39 : decode cX8_ofPlaces 39 = .ok (.goto (-25), 3) := by decide +kernel
theorem dX8_ofPlaces_42 : decode cX8_ofPlaces 42 = .ok (.iconst 0, 1) := by decide +kernel
theorem dX8_ofPlaces_43 : decode cX8_ofPlaces 43 = .ok (.istore 6, 2) := by decide +kernel
theorem dX8_ofPlaces_45 : decode cX8_ofPlaces 45 = .ok (.iload 6, 2) := by decide +kernel
theorem dX8_ofPlaces_47 : decode cX8_ofPlaces 47 = .ok (.iconst 3, 1) := by decide +kernel
theorem dX8_ofPlaces_48 : decode cX8_ofPlaces 48 = .ok (.if_icmp .ge 25, 3) := by decide +kernel
theorem dX8_ofPlaces_51 : decode cX8_ofPlaces 51 = .ok (.ldc2_w 260, 3) := by decide +kernel
theorem dX8_ofPlaces_54 : decode cX8_ofPlaces 54 = .ok (.lload_n 3, 1) := by decide +kernel
theorem dX8_ofPlaces_55 : decode cX8_ofPlaces 55 = .ok (.lmul, 1) := by decide +kernel
theorem dX8_ofPlaces_56 : decode cX8_ofPlaces 56 = .ok (.aload_n 0, 1) := by decide +kernel
theorem dX8_ofPlaces_57 : decode cX8_ofPlaces 57 = .ok (.iload 5, 2) := by decide +kernel
theorem dX8_ofPlaces_59 : decode cX8_ofPlaces 59 = .ok (.iload 6, 2) := by decide +kernel
theorem dX8_ofPlaces_61 : decode cX8_ofPlaces 61 = .ok (.invokevirtual 246, 3) := by decide +kernel
theorem dX8_ofPlaces_64 : decode cX8_ofPlaces 64 = .ok (.i2l, 1) := by decide +kernel
theorem dX8_ofPlaces_65 : decode cX8_ofPlaces 65 = .ok (.ladd, 1) := by decide +kernel
theorem dX8_ofPlaces_66 : decode cX8_ofPlaces 66 = .ok (.lstore_n 3, 1) := by decide +kernel
theorem dX8_ofPlaces_67 : decode cX8_ofPlaces 67 = .ok (.iinc 6 1, 3) := by decide +kernel
theorem dX8_ofPlaces_70 : decode cX8_ofPlaces 70 = .ok (.goto (-25), 3) := by decide +kernel
theorem dX8_ofPlaces_73 : decode cX8_ofPlaces 73 = .ok (.iinc 5 1, 3) := by decide +kernel
theorem dX8_ofPlaces_76 : decode cX8_ofPlaces 76 = .ok (.goto (-71), 3) := by decide +kernel
theorem dX8_ofPlaces_79 : decode cX8_ofPlaces 79 = .ok (.lload_n 3, 1) := by decide +kernel
theorem dX8_ofPlaces_80 : decode cX8_ofPlaces 80 = .ok (.lreturn, 1) := by decide +kernel
theorem dX8_ofReceivers_0 : decode cX8_ofReceivers 0 = .ok (.lload_n 1, 1) := by decide +kernel
theorem dX8_ofReceivers_1 : decode cX8_ofReceivers 1 = .ok (.lstore_n 3, 1) := by decide +kernel
theorem dX8_ofReceivers_2 : decode cX8_ofReceivers 2 = .ok (.iconst 0, 1) := by decide +kernel
theorem dX8_ofReceivers_3 : decode cX8_ofReceivers 3 = .ok (.istore 5, 2) := by decide +kernel
theorem dX8_ofReceivers_5 : decode cX8_ofReceivers 5 = .ok (.iload 5, 2) := by decide +kernel
theorem dX8_ofReceivers_7 : decode cX8_ofReceivers 7 = .ok (.iconst 3, 1) := by decide +kernel
theorem dX8_ofReceivers_8 : decode cX8_ofReceivers 8 = .ok (.if_icmp .ge 114, 3) := by decide +kernel
theorem dX8_ofReceivers_11 : decode cX8_ofReceivers 11 = .ok (.iconst 0, 1) := by decide +kernel
theorem dX8_ofReceivers_12 : decode cX8_ofReceivers 12 = .ok (.istore 6, 2) := by decide +kernel
theorem dX8_ofReceivers_14 : decode cX8_ofReceivers 14 = .ok (.iload 6, 2) := by decide +kernel
theorem dX8_ofReceivers_16 : decode cX8_ofReceivers 16 = .ok (.bipush 14, 2) := by decide +kernel
theorem dX8_ofReceivers_18 : decode cX8_ofReceivers 18 = .ok (.if_icmp .ge 25, 3) := by decide +kernel
theorem dX8_ofReceivers_21 : decode cX8_ofReceivers 21 = .ok (.ldc2_w 260, 3) := by decide +kernel
theorem dX8_ofReceivers_24 : decode cX8_ofReceivers 24 = .ok (.lload_n 3, 1) := by decide +kernel
theorem dX8_ofReceivers_25 : decode cX8_ofReceivers 25 = .ok (.lmul, 1) := by decide +kernel
theorem dX8_ofReceivers_26 : decode cX8_ofReceivers 26 = .ok (.aload_n 0, 1) := by decide +kernel
theorem dX8_ofReceivers_27 : decode cX8_ofReceivers 27 = .ok (.iload 5, 2) := by decide +kernel
theorem dX8_ofReceivers_29 : decode cX8_ofReceivers 29 = .ok (.iload 6, 2) := by decide +kernel
theorem dX8_ofReceivers_31 : decode cX8_ofReceivers 31 = .ok (.invokevirtual 265, 3) := by decide +kernel
theorem dX8_ofReceivers_34 : decode cX8_ofReceivers 34 = .ok (.i2l, 1) := by decide +kernel
theorem dX8_ofReceivers_35 : decode cX8_ofReceivers 35 = .ok (.ladd, 1) := by decide +kernel
theorem dX8_ofReceivers_36 : decode cX8_ofReceivers 36 = .ok (.lstore_n 3, 1) := by decide +kernel
theorem dX8_ofReceivers_37 : decode cX8_ofReceivers 37 = .ok (.iinc 6 1, 3) := by decide +kernel
theorem dX8_ofReceivers_40 : decode cX8_ofReceivers 40 = .ok (.goto (-26), 3) := by decide +kernel
theorem dX8_ofReceivers_43 : decode cX8_ofReceivers 43 = .ok (.iconst 0, 1) := by decide +kernel
theorem dX8_ofReceivers_44 : decode cX8_ofReceivers 44 = .ok (.istore 6, 2) := by decide +kernel
theorem dX8_ofReceivers_46 : decode cX8_ofReceivers 46 = .ok (.iload 6, 2) := by decide +kernel
theorem dX8_ofReceivers_48 : decode cX8_ofReceivers 48 = .ok (.aload_n 0, 1) := by decide +kernel
theorem dX8_ofReceivers_49 : decode cX8_ofReceivers 49 = .ok (.iload 5, 2) := by decide +kernel
theorem dX8_ofReceivers_51 : decode cX8_ofReceivers 51 = .ok (.iconst 2, 1) := by decide +kernel
theorem dX8_ofReceivers_52 : decode cX8_ofReceivers 52 = .ok (.invokevirtual 58, 3) := by decide +kernel
theorem dX8_ofReceivers_55 : decode cX8_ofReceivers 55 = .ok (.if_icmp .ge 28, 3) := by decide +kernel
theorem dX8_ofReceivers_58 : decode cX8_ofReceivers 58 = .ok (.ldc2_w 260, 3) := by decide +kernel
theorem dX8_ofReceivers_61 : decode cX8_ofReceivers 61 = .ok (.lload_n 3, 1) := by decide +kernel
theorem dX8_ofReceivers_62 : decode cX8_ofReceivers 62 = .ok (.lmul, 1) := by decide +kernel
theorem dX8_ofReceivers_63 : decode cX8_ofReceivers 63 = .ok (.aload_n 0, 1) := by decide +kernel
theorem dX8_ofReceivers_64 : decode cX8_ofReceivers 64 = .ok (.iload 5, 2) := by decide +kernel
theorem dX8_ofReceivers_66 : decode cX8_ofReceivers 66 = .ok (.bipush 13, 2) := by decide +kernel
theorem dX8_ofReceivers_68 : decode cX8_ofReceivers 68 = .ok (.iload 6, 2) := by decide +kernel
theorem dX8_ofReceivers_70 : decode cX8_ofReceivers 70 = .ok (.iadd, 1) := by decide +kernel
theorem dX8_ofReceivers_71 : decode cX8_ofReceivers 71 = .ok (.invokevirtual 58, 3) := by decide +kernel
theorem dX8_ofReceivers_74 : decode cX8_ofReceivers 74 = .ok (.i2l, 1) := by decide +kernel
theorem dX8_ofReceivers_75 : decode cX8_ofReceivers 75 = .ok (.ladd, 1) := by decide +kernel
theorem dX8_ofReceivers_76 : decode cX8_ofReceivers 76 = .ok (.lstore_n 3, 1) := by decide +kernel
theorem dX8_ofReceivers_77 : decode cX8_ofReceivers 77 = .ok (.iinc 6 1, 3) := by decide +kernel
theorem dX8_ofReceivers_80 : decode cX8_ofReceivers 80 = .ok (.goto (-34), 3) := by decide +kernel
theorem dX8_ofReceivers_83 : decode cX8_ofReceivers 83 = .ok (.iconst 0, 1) := by decide +kernel
theorem dX8_ofReceivers_84 : decode cX8_ofReceivers 84 = .ok (.istore 6, 2) := by decide +kernel
theorem dX8_ofReceivers_86 : decode cX8_ofReceivers 86 = .ok (.iload 6, 2) := by decide +kernel
theorem dX8_ofReceivers_88 : decode cX8_ofReceivers 88 = .ok (.iconst 4, 1) := by decide +kernel
theorem dX8_ofReceivers_89 : decode cX8_ofReceivers 89 = .ok (.if_icmp .ge 27, 3) := by decide +kernel
theorem dX8_ofReceivers_92 : decode cX8_ofReceivers 92 = .ok (.ldc2_w 260, 3) := by decide +kernel
theorem dX8_ofReceivers_95 : decode cX8_ofReceivers 95 = .ok (.lload_n 3, 1) := by decide +kernel
theorem dX8_ofReceivers_96 : decode cX8_ofReceivers 96 = .ok (.lmul, 1) := by decide +kernel
theorem dX8_ofReceivers_97 : decode cX8_ofReceivers 97 = .ok (.aload_n 0, 1) := by decide +kernel
theorem dX8_ofReceivers_98 : decode cX8_ofReceivers 98 = .ok (.bipush 10, 2) := by decide +kernel
theorem dX8_ofReceivers_100 : decode cX8_ofReceivers 100 = .ok (.iload 5, 2) := by decide +kernel
theorem dX8_ofReceivers_102 : decode cX8_ofReceivers 102 = .ok (.iload 6, 2) := by decide +kernel
theorem dX8_ofReceivers_104 : decode cX8_ofReceivers 104 = .ok (.invokevirtual 243, 3) := by decide +kernel
theorem dX8_ofReceivers_107 : decode cX8_ofReceivers 107 = .ok (.i2l, 1) := by decide +kernel
theorem dX8_ofReceivers_108 : decode cX8_ofReceivers 108 = .ok (.ladd, 1) := by decide +kernel
theorem dX8_ofReceivers_109 : decode cX8_ofReceivers 109 = .ok (.lstore_n 3, 1) := by decide +kernel
theorem dX8_ofReceivers_110 : decode cX8_ofReceivers 110 = .ok (.iinc 6 1, 3) := by decide +kernel
theorem dX8_ofReceivers_113 : decode cX8_ofReceivers 113 = .ok (.goto (-27), 3) := by decide +kernel
theorem dX8_ofReceivers_116 : decode cX8_ofReceivers 116 = .ok (.iinc 5 1, 3) := by decide +kernel
theorem dX8_ofReceivers_119 : decode cX8_ofReceivers 119 = .ok (.goto (-114), 3) := by decide +kernel
theorem dX8_ofReceivers_122 : decode cX8_ofReceivers 122 = .ok (.lload_n 3, 1) := by decide +kernel
theorem dX8_ofReceivers_123 : decode cX8_ofReceivers 123 = .ok (.lreturn, 1) := by decide +kernel
theorem dX8_digest_0 : decode cX8_digest 0 = .ok (.ldc2_w 268, 3) := by decide +kernel
theorem dX8_digest_3 : decode cX8_digest 3 = .ok (.lstore_n 1, 1) := by decide +kernel
theorem dX8_digest_4 : decode cX8_digest 4 = .ok (.iconst 0, 1) := by decide +kernel
theorem dX8_digest_5 : decode cX8_digest 5 = .ok (.istore_n 3, 1) := by decide +kernel
theorem dX8_digest_6 : decode cX8_digest 6 = .ok (.iload_n 3, 1) := by decide +kernel
theorem dX8_digest_7 : decode cX8_digest 7 = .ok (.bipush 12, 2) := by decide +kernel
theorem dX8_digest_9 : decode cX8_digest 9 = .ok (.if_icmp .ge 22, 3) := by decide +kernel
theorem dX8_digest_12 : decode cX8_digest 12 = .ok (.ldc2_w 260, 3) := by decide +kernel
theorem dX8_digest_15 : decode cX8_digest 15 = .ok (.lload_n 1, 1) := by decide +kernel
theorem dX8_digest_16 : decode cX8_digest 16 = .ok (.lmul, 1) := by decide +kernel
theorem dX8_digest_17 : decode cX8_digest 17 = .ok (.aload_n 0, 1) := by decide +kernel
theorem dX8_digest_18 : decode cX8_digest 18 = .ok (.iload_n 3, 1) := by decide +kernel
theorem dX8_digest_19 : decode cX8_digest 19 = .ok (.invokevirtual 270, 3) := by decide +kernel
theorem dX8_digest_22 : decode cX8_digest 22 = .ok (.i2l, 1) := by decide +kernel
theorem dX8_digest_23 : decode cX8_digest 23 = .ok (.ladd, 1) := by decide +kernel
theorem dX8_digest_24 : decode cX8_digest 24 = .ok (.lstore_n 1, 1) := by decide +kernel
theorem dX8_digest_25 : decode cX8_digest 25 = .ok (.iinc 3 1, 3) := by decide +kernel
theorem dX8_digest_28 : decode cX8_digest 28 = .ok (.goto (-22), 3) := by decide +kernel
theorem dX8_digest_31 : decode cX8_digest 31 = .ok (.iconst 0, 1) := by decide +kernel
theorem dX8_digest_32 : decode cX8_digest 32 = .ok (.istore_n 3, 1) := by decide +kernel
theorem dX8_digest_33 : decode cX8_digest 33 = .ok (.iload_n 3, 1) := by decide +kernel
theorem dX8_digest_34 : decode cX8_digest 34 = .ok (.bipush 7, 2) := by decide +kernel
theorem dX8_digest_36 : decode cX8_digest 36 = .ok (.if_icmp .ge 26, 3) := by decide +kernel
theorem dX8_digest_39 : decode cX8_digest 39 = .ok (.ldc2_w 260, 3) := by decide +kernel
theorem dX8_digest_42 : decode cX8_digest 42 = .ok (.lload_n 1, 1) := by decide +kernel
theorem dX8_digest_43 : decode cX8_digest 43 = .ok (.lmul, 1) := by decide +kernel
theorem dX8_digest_44 : decode cX8_digest 44 = .ok (.aload_n 0, 1) := by decide +kernel
theorem dX8_digest_45 : decode cX8_digest 45 = .ok (.getfield 7, 3) := by decide +kernel
theorem dX8_digest_48 : decode cX8_digest 48 = .ok (.bipush 10, 2) := by decide +kernel
theorem dX8_digest_50 : decode cX8_digest 50 = .ok (.iload_n 3, 1) := by decide +kernel
theorem dX8_digest_51 : decode cX8_digest 51 = .ok (.iadd, 1) := by decide +kernel
theorem dX8_digest_52 : decode cX8_digest 52 = .ok (.iaload, 1) := by decide +kernel
theorem dX8_digest_53 : decode cX8_digest 53 = .ok (.i2l, 1) := by decide +kernel
theorem dX8_digest_54 : decode cX8_digest 54 = .ok (.ladd, 1) := by decide +kernel
theorem dX8_digest_55 : decode cX8_digest 55 = .ok (.lstore_n 1, 1) := by decide +kernel
theorem dX8_digest_56 : decode cX8_digest 56 = .ok (.iinc 3 1, 3) := by decide +kernel
theorem dX8_digest_59 : decode cX8_digest 59 = .ok (.goto (-26), 3) := by decide +kernel
theorem dX8_digest_62 : decode cX8_digest 62 = .ok (.aload_n 0, 1) := by decide +kernel
theorem dX8_digest_63 : decode cX8_digest 63 = .ok (.aload_n 0, 1) := by decide +kernel
theorem dX8_digest_64 : decode cX8_digest 64 = .ok (.aload_n 0, 1) := by decide +kernel
theorem dX8_digest_65 : decode cX8_digest 65 = .ok (.lload_n 1, 1) := by decide +kernel
theorem dX8_digest_66 : decode cX8_digest 66 = .ok (.invokevirtual 273, 3) := by decide +kernel
theorem dX8_digest_69 : decode cX8_digest 69 = .ok (.invokevirtual 277, 3) := by decide +kernel
theorem dX8_digest_72 : decode cX8_digest 72 = .ok (.invokevirtual 280, 3) := by decide +kernel
theorem dX8_digest_75 : decode cX8_digest 75 = .ok (.lstore_n 1, 1) := by decide +kernel
theorem dX8_digest_76 : decode cX8_digest 76 = .ok (.iconst 0, 1) := by decide +kernel
theorem dX8_digest_77 : decode cX8_digest 77 = .ok (.istore_n 3, 1) := by decide +kernel
theorem dX8_digest_78 : decode cX8_digest 78 = .ok (.iload_n 3, 1) := by decide +kernel
theorem dX8_digest_79 : decode cX8_digest 79 = .ok (.aload_n 0, 1) := by decide +kernel
theorem dX8_digest_80 : decode cX8_digest 80 = .ok (.getfield 7, 3) := by decide +kernel
theorem dX8_digest_83 : decode cX8_digest 83 = .ok (.bipush 9, 2) := by decide +kernel
theorem dX8_digest_85 : decode cX8_digest 85 = .ok (.iaload, 1) := by decide +kernel
theorem dX8_digest_86 : decode cX8_digest 86 = .ok (.if_icmp .ge 39, 3) := by decide +kernel
theorem dX8_digest_89 : decode cX8_digest 89 = .ok (.iconst 0, 1) := by decide +kernel
theorem dX8_digest_90 : decode cX8_digest 90 = .ok (.istore 4, 2) := by decide +kernel
theorem dX8_digest_92 : decode cX8_digest 92 = .ok (.iload 4, 2) := by decide +kernel
theorem dX8_digest_94 : decode cX8_digest 94 = .ok (.iconst 5, 1) := by decide +kernel
theorem dX8_digest_95 : decode cX8_digest 95 = .ok (.if_icmp .ge 24, 3) := by decide +kernel
theorem dX8_digest_98 : decode cX8_digest 98 = .ok (.ldc2_w 260, 3) := by decide +kernel
theorem dX8_digest_101 : decode cX8_digest 101 = .ok (.lload_n 1, 1) := by decide +kernel
theorem dX8_digest_102 : decode cX8_digest 102 = .ok (.lmul, 1) := by decide +kernel
theorem dX8_digest_103 : decode cX8_digest 103 = .ok (.aload_n 0, 1) := by decide +kernel
theorem dX8_digest_104 : decode cX8_digest 104 = .ok (.iload_n 3, 1) := by decide +kernel
theorem dX8_digest_105 : decode cX8_digest 105 = .ok (.iload 4, 2) := by decide +kernel
theorem dX8_digest_107 : decode cX8_digest 107 = .ok (.invokevirtual 283, 3) := by decide +kernel
theorem dX8_digest_110 : decode cX8_digest 110 = .ok (.i2l, 1) := by decide +kernel
theorem dX8_digest_111 : decode cX8_digest 111 = .ok (.ladd, 1) := by decide +kernel
theorem dX8_digest_112 : decode cX8_digest 112 = .ok (.lstore_n 1, 1) := by decide +kernel
theorem dX8_digest_113 : decode cX8_digest 113 = .ok (.iinc 4 1, 3) := by decide +kernel
theorem dX8_digest_116 : decode cX8_digest 116 = .ok (.goto (-24), 3) := by decide +kernel
theorem dX8_digest_119 : decode cX8_digest 119 = .ok (.iinc 3 1, 3) := by decide +kernel
theorem dX8_digest_122 : decode cX8_digest 122 = .ok (.goto (-44), 3) := by decide +kernel
theorem dX8_digest_125 : decode cX8_digest 125 = .ok (.ldc2_w 260, 3) := by decide +kernel
theorem dX8_digest_128 : decode cX8_digest 128 = .ok (.lload_n 1, 1) := by decide +kernel
theorem dX8_digest_129 : decode cX8_digest 129 = .ok (.lmul, 1) := by decide +kernel
theorem dX8_digest_130 : decode cX8_digest 130 = .ok (.aload_n 0, 1) := by decide +kernel
theorem dX8_digest_131 : decode cX8_digest 131 = .ok (.invokevirtual 240, 3) := by decide +kernel
theorem dX8_digest_134 : decode cX8_digest 134 = .ok (.i2l, 1) := by decide +kernel
theorem dX8_digest_135 : decode cX8_digest 135 = .ok (.ladd, 1) := by decide +kernel
theorem dX8_digest_136 : decode cX8_digest 136 = .ok (.lstore_n 1, 1) := by decide +kernel
theorem dX8_digest_137 : decode cX8_digest 137 = .ok (.ldc2_w 260, 3) := by decide +kernel
theorem dX8_digest_140 : decode cX8_digest 140 = .ok (.lload_n 1, 1) := by decide +kernel
theorem dX8_digest_141 : decode cX8_digest 141 = .ok (.lmul, 1) := by decide +kernel
theorem dX8_digest_142 : decode cX8_digest 142 = .ok (.aload_n 0, 1) := by decide +kernel
theorem dX8_digest_143 : decode cX8_digest 143 = .ok (.invokevirtual 249, 3) := by decide +kernel
theorem dX8_digest_146 : decode cX8_digest 146 = .ok (.i2l, 1) := by decide +kernel
theorem dX8_digest_147 : decode cX8_digest 147 = .ok (.ladd, 1) := by decide +kernel
theorem dX8_digest_148 : decode cX8_digest 148 = .ok (.lstore_n 1, 1) := by decide +kernel
theorem dX8_digest_149 : decode cX8_digest 149 = .ok (.ldc2_w 260, 3) := by decide +kernel
theorem dX8_digest_152 : decode cX8_digest 152 = .ok (.lload_n 1, 1) := by decide +kernel
theorem dX8_digest_153 : decode cX8_digest 153 = .ok (.lmul, 1) := by decide +kernel
theorem dX8_digest_154 : decode cX8_digest 154 = .ok (.aload_n 0, 1) := by decide +kernel
theorem dX8_digest_155 : decode cX8_digest 155 = .ok (.invokevirtual 252, 3) := by decide +kernel
theorem dX8_digest_158 : decode cX8_digest 158 = .ok (.invokestatic 286, 3) := by decide +kernel
theorem dX8_digest_161 : decode cX8_digest 161 = .ok (.ladd, 1) := by decide +kernel
theorem dX8_digest_162 : decode cX8_digest 162 = .ok (.lstore_n 1, 1) := by decide +kernel
theorem dX8_digest_163 : decode cX8_digest 163 = .ok (.ldc2_w 260, 3) := by decide +kernel
theorem dX8_digest_166 : decode cX8_digest 166 = .ok (.lload_n 1, 1) := by decide +kernel
theorem dX8_digest_167 : decode cX8_digest 167 = .ok (.lmul, 1) := by decide +kernel
theorem dX8_digest_168 : decode cX8_digest 168 = .ok (.aload_n 0, 1) := by decide +kernel
theorem dX8_digest_169 : decode cX8_digest 169 = .ok (.invokevirtual 256, 3) := by decide +kernel
theorem dX8_digest_172 : decode cX8_digest 172 = .ok (.invokestatic 292, 3) := by decide +kernel
theorem dX8_digest_175 : decode cX8_digest 175 = .ok (.i2l, 1) := by decide +kernel
theorem dX8_digest_176 : decode cX8_digest 176 = .ok (.ladd, 1) := by decide +kernel
theorem dX8_digest_177 : decode cX8_digest 177 = .ok (.lstore_n 1, 1) := by decide +kernel
theorem dX8_digest_178 : decode cX8_digest 178 = .ok (.ldc2_w 260, 3) := by decide +kernel
theorem dX8_digest_181 : decode cX8_digest 181 = .ok (.lload_n 1, 1) := by decide +kernel
theorem dX8_digest_182 : decode cX8_digest 182 = .ok (.lmul, 1) := by decide +kernel
theorem dX8_digest_183 : decode cX8_digest 183 = .ok (.aload_n 0, 1) := by decide +kernel
theorem dX8_digest_184 : decode cX8_digest 184 = .ok (.getfield 76, 3) := by decide +kernel
theorem dX8_digest_187 : decode cX8_digest 187 = .ok (.ifCond .eq 7, 3) := by decide +kernel
theorem dX8_digest_190 : decode cX8_digest 190 = .ok (.iconst 1, 1) := by decide +kernel
theorem dX8_digest_191 : decode cX8_digest 191 = .ok (.goto 4, 3) := by decide +kernel
theorem dX8_digest_194 : decode cX8_digest 194 = .ok (.iconst 0, 1) := by decide +kernel
theorem dX8_digest_195 : decode cX8_digest 195 = .ok (.i2l, 1) := by decide +kernel
theorem dX8_digest_196 : decode cX8_digest 196 = .ok (.ladd, 1) := by decide +kernel
theorem dX8_digest_197 : decode cX8_digest 197 = .ok (.lstore_n 1, 1) := by decide +kernel
theorem dX8_digest_198 : decode cX8_digest 198 = .ok (.ldc2_w 260, 3) := by decide +kernel
theorem dX8_digest_201 : decode cX8_digest 201 = .ok (.lload_n 1, 1) := by decide +kernel
theorem dX8_digest_202 : decode cX8_digest 202 = .ok (.lmul, 1) := by decide +kernel
theorem dX8_digest_203 : decode cX8_digest 203 = .ok (.aload_n 0, 1) := by decide +kernel
theorem dX8_digest_204 : decode cX8_digest 204 = .ok (.getfield 176, 3) := by decide +kernel
theorem dX8_digest_207 : decode cX8_digest 207 = .ok (.i2l, 1) := by decide +kernel
theorem dX8_digest_208 : decode cX8_digest 208 = .ok (.ladd, 1) := by decide +kernel
theorem dX8_digest_209 : decode cX8_digest 209 = .ok (.lstore_n 1, 1) := by decide +kernel
theorem dX8_digest_210 : decode cX8_digest 210 = .ok (.iconst 0, 1) := by decide +kernel
theorem dX8_digest_211 : decode cX8_digest 211 = .ok (.istore_n 3, 1) := by decide +kernel
theorem dX8_digest_212 : decode cX8_digest 212 = .ok (.iload_n 3, 1) := by decide +kernel
theorem dX8_digest_213 : decode cX8_digest 213 = .ok (.aload_n 0, 1) := by decide +kernel
theorem dX8_digest_214 : decode cX8_digest 214 = .ok (.getfield 176, 3) := by decide +kernel
theorem dX8_digest_217 : decode cX8_digest 217 = .ok (.if_icmp .ge 23, 3) := by decide +kernel
theorem dX8_digest_220 : decode cX8_digest 220 = .ok (.ldc2_w 260, 3) := by decide +kernel
theorem dX8_digest_223 : decode cX8_digest 223 = .ok (.lload_n 1, 1) := by decide +kernel
theorem dX8_digest_224 : decode cX8_digest 224 = .ok (.lmul, 1) := by decide +kernel
theorem dX8_digest_225 : decode cX8_digest 225 = .ok (.aload_n 0, 1) := by decide +kernel
theorem dX8_digest_226 : decode cX8_digest 226 = .ok (.getfield 22, 3) := by decide +kernel
theorem dX8_digest_229 : decode cX8_digest 229 = .ok (.iload_n 3, 1) := by decide +kernel
theorem dX8_digest_230 : decode cX8_digest 230 = .ok (.iaload, 1) := by decide +kernel
theorem dX8_digest_231 : decode cX8_digest 231 = .ok (.i2l, 1) := by decide +kernel
theorem dX8_digest_232 : decode cX8_digest 232 = .ok (.ladd, 1) := by decide +kernel
theorem dX8_digest_233 : decode cX8_digest 233 = .ok (.lstore_n 1, 1) := by decide +kernel
theorem dX8_digest_234 : decode cX8_digest 234 = .ok (.iinc 3 1, 3) := by decide +kernel
theorem dX8_digest_237 : decode cX8_digest 237 = .ok (.goto (-25), 3) := by decide +kernel
theorem dX8_digest_240 : decode cX8_digest 240 = .ok (.aload_n 0, 1) := by decide +kernel
theorem dX8_digest_241 : decode cX8_digest 241 = .ok (.iconst 0, 1) := by decide +kernel
theorem dX8_digest_242 : decode cX8_digest 242 = .ok (.putfield 35, 3) := by decide +kernel
theorem dX8_digest_245 : decode cX8_digest 245 = .ok (.lload_n 1, 1) := by decide +kernel
theorem dX8_digest_246 : decode cX8_digest 246 = .ok (.lreturn, 1) := by decide +kernel
