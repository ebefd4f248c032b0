theorem dX5_init_0 : decode cX5_init 0 = .ok (.aload_n 0, 1) := by decide +kernel
theorem dX5_init_1 : decode cX5_init 1 = .ok (.invokespecial 3, 3) := by decide +kernel
theorem dX5_init_4 : decode cX5_init 4 = .ok (.aload_n 0, 1) := by decide +kernel
theorem dX5_init_5 : decode cX5_init 5 = .ok (.getstatic 9, 3) := by decide +kernel
theorem dX5_init_8 : decode cX5_init 8 = .ok (.invokevirtual 13, 3) := by decide +kernel
theorem dX5_init_11 : decode cX5_init 11 = .ok (.checkcast 14, 3) := by decide +kernel
theorem dX5_init_14 : decode cX5_init 14 = .ok (.putfield 18, 3) := by decide +kernel
theorem dX5_init_17 : decode cX5_init 17 = .ok (.aload_n 0, 1) := by decide +kernel
theorem dX5_init_18 : decode cX5_init 18 = .ok (.iconst 4, 1) := by decide +kernel
theorem dX5_init_19 : decode cX5_init 19 = .ok (.anewarray 23, 3) := by decide +kernel
theorem dX5_init_22 : decode cX5_init 22 = .ok (.putfield 25, 3) := by decide +kernel
theorem dX5_init_25 : decode cX5_init 25 = .ok (.iconst 0, 1) := by decide +kernel
theorem dX5_init_26 : decode cX5_init 26 = .ok (.istore_n 1, 1) := by decide +kernel
theorem dX5_init_27 : decode cX5_init 27 = .ok (.iload_n 1, 1) := by decide +kernel
theorem dX5_init_28 : decode cX5_init 28 = .ok (.iconst 4, 1) := by decide +kernel
theorem dX5_init_29 : decode cX5_init 29 = .ok (.if_icmp .ge 22, 3) := by decide +kernel
theorem dX5_init_32 : decode cX5_init 32 = .ok (.aload_n 0, 1) := by decide +kernel
theorem dX5_init_33 : decode cX5_init 33 = .ok (.getfield 25, 3) := by decide +kernel
theorem dX5_init_36 : decode cX5_init 36 = .ok (.iload_n 1, 1) := by decide +kernel
theorem dX5_init_37 : decode cX5_init 37 = .ok (.new 23, 3) := by decide +kernel
theorem dX5_init_40 : decode cX5_init 40 = .ok (.dup, 1) := by decide +kernel
theorem dX5_init_41 : decode cX5_init 41 = .ok (.invokespecial 29, 3) := by decide +kernel
theorem dX5_init_44 : decode cX5_init 44 = .ok (.aastore, 1) := by decide +kernel
theorem dX5_init_45 : decode cX5_init 45 = .ok (.iinc 1 1, 3) := by decide +kernel
theorem dX5_init_48 : decode cX5_init 48 = .ok (.goto (-21), 3) := by decide +kernel
theorem dX5_init_51 : decode cX5_init 51 = .ok (.aload_n 0, 1) := by decide +kernel
theorem dX5_init_52 : decode cX5_init 52 = .ok (.new 30, 3) := by decide +kernel
theorem dX5_init_55 : decode cX5_init 55 = .ok (.dup, 1) := by decide +kernel
theorem dX5_init_56 : decode cX5_init 56 = .ok (.invokespecial 32, 3) := by decide +kernel
theorem dX5_init_59 : decode cX5_init 59 = .ok (.putfield 33, 3) := by decide +kernel
theorem dX5_init_62 : decode cX5_init 62 = .ok (.aload_n 0, 1) := by decide +kernel
theorem dX5_init_63 : decode cX5_init 63 = .ok (.iconst 3, 1) := by decide +kernel
theorem dX5_init_64 : decode cX5_init 64 = .ok (.anewarray 37, 3) := by decide +kernel
theorem dX5_init_67 : decode cX5_init 67 = .ok (.putfield 39, 3) := by decide +kernel
theorem dX5_init_70 : decode cX5_init 70 = .ok (.iconst 0, 1) := by decide +kernel
theorem dX5_init_71 : decode cX5_init 71 = .ok (.istore_n 1, 1) := by decide +kernel
theorem dX5_init_72 : decode cX5_init 72 = .ok (.iload_n 1, 1) := by decide +kernel
theorem dX5_init_73 : decode cX5_init 73 = .ok (.iconst 3, 1) := by decide +kernel
theorem dX5_init_74 : decode cX5_init 74 = .ok (.if_icmp .ge 22, 3) := by decide +kernel
theorem dX5_init_77 : decode cX5_init 77 = .ok (.aload_n 0, 1) := by decide +kernel
theorem dX5_init_78 : decode cX5_init 78 = .ok (.getfield 39, 3) := by decide +kernel
theorem dX5_init_81 : decode cX5_init 81 = .ok (.iload_n 1, 1) := by decide +kernel
theorem dX5_init_82 : decode cX5_init 82 = .ok (.new 37, 3) := by decide +kernel
theorem dX5_init_85 : decode cX5_init 85 = .ok (.dup, 1) := by decide +kernel
theorem dX5_init_86 : decode cX5_init 86 = .ok (.invokespecial 43, 3) := by decide +kernel
theorem dX5_init_89 : decode cX5_init 89 = .ok (.aastore, 1) := by decide +kernel
theorem dX5_init_90 : decode cX5_init 90 = .ok (.iinc 1 1, 3) := by decide +kernel
theorem dX5_init_93 : decode cX5_init 93 = .ok (.goto (-21), 3) := by decide +kernel
theorem dX5_init_96 : decode cX5_init 96 = .ok (.aload_n 0, 1) := by decide +kernel
theorem dX5_init_97 : decode cX5_init 97 = .ok (.new 44, 3) := by decide +kernel
theorem dX5_init_100 : decode cX5_init 100 = .ok (.dup, 1) := by decide +kernel
theorem dX5_init_101 : decode cX5_init 101 = .ok (.invokespecial 46, 3) := by decide +kernel
theorem dX5_init_104 : decode cX5_init 104 = .ok (.putfield 47, 3) := by decide +kernel
theorem dX5_init_107 : decode cX5_init 107 = .ok (.aload_n 0, 1) := by decide +kernel
theorem dX5_init_108 : decode cX5_init 108 = .ok (.iconst 0, 1) := by decide +kernel
theorem dX5_init_109 : decode cX5_init 109 = .ok (.putfield 51, 3) := by decide +kernel
theorem dX5_init_112 : decode cX5_init 112 = .ok (.aload_n 0, 1) := by decide +kernel
theorem dX5_init_113 : decode cX5_init 113 = .ok (.iconst 0, 1) := by decide +kernel
theorem dX5_init_114 : decode cX5_init 114 = .ok (.putfield 55, 3) := by decide +kernel
theorem dX5_init_117 : decode cX5_init 117 = .ok (.return_, 1) := by decide +kernel
theorem dX5_copyFrom_0 : decode cX5_copyFrom 0 = .ok (.aload_n 1, 1) := by decide +kernel
theorem dX5_copyFrom_1 : decode cX5_copyFrom 1 = .ok (.getfield 18, 3) := by decide +kernel
theorem dX5_copyFrom_4 : decode cX5_copyFrom 4 = .ok (.iconst 0, 1) := by decide +kernel
theorem dX5_copyFrom_5 : decode cX5_copyFrom 5 = .ok (.aload_n 0, 1) := by decide +kernel
theorem dX5_copyFrom_6 : decode cX5_copyFrom 6 = .ok (.getfield 18, 3) := by decide +kernel
theorem dX5_copyFrom_9 : decode cX5_copyFrom 9 = .ok (.iconst 0, 1) := by decide +kernel
theorem dX5_copyFrom_10 : decode cX5_copyFrom 10 = .ok (.bipush 7, 2) := by decide +kernel
theorem dX5_copyFrom_12 : decode cX5_copyFrom 12 = .ok (.invokestatic 58, 3) := by decide +kernel
theorem dX5_copyFrom_15 : decode cX5_copyFrom 15 = .ok (.iconst 0, 1) := by decide +kernel
theorem dX5_copyFrom_16 : decode cX5_copyFrom 16 = .ok (.istore_n 2, 1) := by decide +kernel
theorem dX5_copyFrom_17 : decode cX5_copyFrom 17 = .ok (.iload_n 2, 1) := by decide +kernel
theorem dX5_copyFrom_18 : decode cX5_copyFrom 18 = .ok (.iconst 4, 1) := by decide +kernel
theorem dX5_copyFrom_19 : decode cX5_copyFrom 19 = .ok (.if_icmp .ge 24, 3) := by decide +kernel
theorem dX5_copyFrom_22 : decode cX5_copyFrom 22 = .ok (.aload_n 0, 1) := by decide +kernel
theorem dX5_copyFrom_23 : decode cX5_copyFrom 23 = .ok (.getfield 25, 3) := by decide +kernel
theorem dX5_copyFrom_26 : decode cX5_copyFrom 26 = .ok (.iload_n 2, 1) := by decide +kernel
theorem dX5_copyFrom_27 : decode cX5_copyFrom 27 = .ok (.aaload, 1) := by decide +kernel
theorem dX5_copyFrom_28 : decode cX5_copyFrom 28 = .ok (.aload_n 1, 1) := by decide +kernel
theorem dX5_copyFrom_29 : decode cX5_copyFrom 29 = .ok (.getfield 25, 3) := by decide +kernel
theorem dX5_copyFrom_32 : decode cX5_copyFrom 32 = .ok (.iload_n 2, 1) := by decide +kernel
theorem dX5_copyFrom_33 : decode cX5_copyFrom 33 = .ok (.aaload, 1) := by decide +kernel
theorem dX5_copyFrom_34 : decode cX5_copyFrom 34 = .ok (.invokevirtual 64, 3) := by decide +kernel
theorem dX5_copyFrom_37 : decode cX5_copyFrom 37 = .ok (.iinc 2 1, 3) := by decide +kernel
theorem dX5_copyFrom_40 : decode cX5_copyFrom 40 = .ok (.goto (-23), 3) := by decide +kernel
theorem dX5_copyFrom_43 : decode cX5_copyFrom 43 = .ok (.aload_n 0, 1) := by decide +kernel
theorem dX5_copyFrom_44 : decode cX5_copyFrom 44 = .ok (.getfield 33, 3) := by decide +kernel
theorem dX5_copyFrom_47 : decode cX5_copyFrom 47 = .ok (.aload_n 1, 1) := by decide +kernel
theorem dX5_copyFrom_48 : decode cX5_copyFrom 48 = .ok (.getfield 33, 3) := by decide +kernel
theorem dX5_copyFrom_51 : decode cX5_copyFrom 51 = .ok (.invokevirtual 68, 3) := by decide +kernel
theorem dX5_copyFrom_54 : decode cX5_copyFrom 54 = .ok (.iconst 0, 1) := by decide +kernel
theorem dX5_copyFrom_55 : decode cX5_copyFrom 55 = .ok (.istore_n 2, 1) := by decide +kernel
theorem dX5_copyFrom_56 : decode cX5_copyFrom 56 = .ok (.iload_n 2, 1) := by decide +kernel
theorem dX5_copyFrom_57 : decode cX5_copyFrom 57 = .ok (.iconst 3, 1) := by decide +kernel
theorem dX5_copyFrom_58 : decode cX5_copyFrom 58 = .ok (.if_icmp .ge 24, 3) := by decide +kernel
theorem dX5_copyFrom_61 : decode cX5_copyFrom 61 = .ok (.aload_n 0, 1) := by decide +kernel
theorem dX5_copyFrom_62 : decode cX5_copyFrom 62 = .ok (.getfield 39, 3) := by decide +kernel
theorem dX5_copyFrom_65 : decode cX5_copyFrom 65 = .ok (.iload_n 2, 1) := by decide +kernel
theorem dX5_copyFrom_66 : decode cX5_copyFrom 66 = .ok (.aaload, 1) := by decide +kernel
theorem dX5_copyFrom_67 : decode cX5_copyFrom 67 = .ok (.aload_n 1, 1) := by decide +kernel
theorem dX5_copyFrom_68 : decode cX5_copyFrom 68 = .ok (.getfield 39, 3) := by decide +kernel
theorem dX5_copyFrom_71 : decode cX5_copyFrom 71 = .ok (.iload_n 2, 1) := by decide +kernel
theorem dX5_copyFrom_72 : decode cX5_copyFrom 72 = .ok (.aaload, 1) := by decide +kernel
theorem dX5_copyFrom_73 : decode cX5_copyFrom 73 = .ok (.invokevirtual 71, 3) := by decide +kernel
theorem dX5_copyFrom_76 : decode cX5_copyFrom 76 = .ok (.iinc 2 1, 3) := by decide +kernel
theorem dX5_copyFrom_79 : decode cX5_copyFrom 79 = .ok (.goto (-23), 3) := by decide +kernel
theorem dX5_copyFrom_82 : decode cX5_copyFrom 82 = .ok (.aload_n 0, 1) := by decide +kernel
theorem dX5_copyFrom_83 : decode cX5_copyFrom 83 = .ok (.getfield 47, 3) := by decide +kernel
theorem dX5_copyFrom_86 : decode cX5_copyFrom 86 = .ok (.aload_n 1, 1) := by decide +kernel
theorem dX5_copyFrom_87 : decode cX5_copyFrom 87 = .ok (.getfield 47, 3) := by decide +kernel
theorem dX5_copyFrom_90 : decode cX5_copyFrom 90 = .ok (.invokevirtual 74, 3) := by decide +kernel
theorem dX5_copyFrom_93 : decode cX5_copyFrom 93 = .ok (.aload_n 0, 1) := by decide +kernel
theorem dX5_copyFrom_94 : decode cX5_copyFrom 94 = .ok (.aload_n 1, 1) := by decide +kernel
theorem dX5_copyFrom_95 : decode cX5_copyFrom 95 = .ok (.getfield 51, 3) := by decide +kernel
theorem dX5_copyFrom_98 : decode cX5_copyFrom 98 = .ok (.putfield 51, 3) := by decide +kernel
theorem dX5_copyFrom_101 : decode cX5_copyFrom 101 = .ok (.aload_n 0, 1) := by decide +kernel
theorem dX5_copyFrom_102 : decode cX5_copyFrom 102 = .ok (.aload_n 1, 1) := by decide +kernel
theorem dX5_copyFrom_103 : decode cX5_copyFrom 103 = .ok (.getfield 55, 3) := by decide +kernel
theorem dX5_copyFrom_106 : decode cX5_copyFrom 106 = .ok (.putfield 55, 3) := by decide +kernel
theorem dX5_copyFrom_109 : decode cX5_copyFrom 109 = .ok (.return_, 1) := by decide +kernel
theorem dX5_freePlace_0 : decode cX5_freePlace 0 = .ok (.iconst 0, 1) := by decide +kernel
theorem dX5_freePlace_1 : decode cX5_freePlace 1 = .ok (.istore_n 1, 1) := by decide +kernel
theorem dX5_freePlace_2 : decode cX5_freePlace 2 = .ok (.iload_n 1, 1) := by decide +kernel
theorem dX5_freePlace_3 : decode cX5_freePlace 3 = .ok (.iconst 4, 1) := by decide +kernel
theorem dX5_freePlace_4 : decode cX5_freePlace 4 = .ok (.if_icmp .ge 23, 3) := by decide +kernel
theorem dX5_freePlace_7 : decode cX5_freePlace 7 = .ok (.aload_n 0, 1) := by decide +kernel
theorem dX5_freePlace_8 : decode cX5_freePlace 8 = .ok (.getfield 25, 3) := by decide +kernel
theorem dX5_freePlace_11 : decode cX5_freePlace 11 = .ok (.iload_n 1, 1) := by decide +kernel
theorem dX5_freePlace_12 : decode cX5_freePlace 12 = .ok (.aaload, 1) := by decide +kernel
theorem dX5_freePlace_13 : decode cX5_freePlace 13 = .ok (.getfield 77, 3) := by decide +kernel
theorem dX5_freePlace_16 : decode cX5_freePlace 16 = .ok (.ifCond .ne 5, 3) := by decide +kernel
theorem dX5_freePlace_19 : decode cX5_freePlace 19 = .ok (.iload_n 1, 1) := by decide +kernel
theorem dX5_freePlace_20 : decode cX5_freePlace 20 = .ok (.ireturn, 1) := by decide +kernel
theorem dX5_freePlace_21 : decode cX5_freePlace 21 = .ok (.iinc 1 1, 3) := by decide +kernel
theorem dX5_freePlace_24 : decode cX5_freePlace 24 = .ok (.goto (-22), 3) := by decide +kernel
theorem dX5_freePlace_27 : decode cX5_freePlace 27 = .ok (.iconst (-1), 1) := by decide +kernel
theorem dX5_freePlace_28 : decode cX5_freePlace 28 = .ok (.ireturn, 1) := by decide +kernel
theorem dX5_isOpen_0 : decode cX5_isOpen 0 = .ok (.iload_n 1, 1) := by decide +kernel
theorem dX5_isOpen_1 : decode cX5_isOpen 1 = .ok (.iconst 4, 1) := by decide +kernel
theorem dX5_isOpen_2 : decode cX5_isOpen 2 = .ok (.invokestatic 81, 3) := by decide +kernel
theorem dX5_isOpen_5 : decode cX5_isOpen 5 = .ok (.ifCond .eq 19, 3) := by decide +kernel
theorem dX5_isOpen_8 : decode cX5_isOpen 8 = .ok (.aload_n 0, 1) := by decide +kernel
theorem dX5_isOpen_9 : decode cX5_isOpen 9 = .ok (.getfield 25, 3) := by decide +kernel
theorem dX5_isOpen_12 : decode cX5_isOpen 12 = .ok (.iload_n 1, 1) := by decide +kernel
theorem dX5_isOpen_13 : decode cX5_isOpen 13 = .ok (.aaload, 1) := by decide +kernel
theorem dX5_isOpen_14 : decode cX5_isOpen 14 = .ok (.getfield 77, 3) := by decide +kernel
theorem dX5_isOpen_17 : decode cX5_isOpen 17 = .ok (.ifCond .eq 7, 3) := by decide +kernel
theorem dX5_isOpen_20 : decode cX5_isOpen 20 = .ok (.iconst 1, 1) := by decide +kernel
theorem dX5_isOpen_21 : decode cX5_isOpen 21 = .ok (.goto 4, 3) := by decide +kernel
theorem dX5_isOpen_24 : decode cX5_isOpen 24 = .ok (.iconst 0, 1) := by decide +kernel
theorem dX5_isOpen_25 : decode cX5_isOpen 25 = .ok (.ireturn, 1) := by decide +kernel
theorem dX5_hasRoomToWrite_0 : decode cX5_hasRoomToWrite 0 = .ok (.aload_n 0, 1) := by decide +kernel
theorem dX5_hasRoomToWrite_1 : decode cX5_hasRoomToWrite 1 = .ok (.iload_n 1, 1) := by decide +kernel
theorem dX5_hasRoomToWrite_2 : decode cX5_hasRoomToWrite 2 = .ok (.invokevirtual 85, 3) := by decide +kernel
theorem dX5_hasRoomToWrite_5 : decode cX5_hasRoomToWrite 5 = .ok (.ifCond .eq 21, 3) := by decide +kernel
theorem dX5_hasRoomToWrite_8 : decode cX5_hasRoomToWrite 8 = .ok (.aload_n 0, 1) := by decide +kernel
theorem dX5_hasRoomToWrite_9 : decode cX5_hasRoomToWrite 9 = .ok (.getfield 25, 3) := by decide +kernel
theorem dX5_hasRoomToWrite_12 : decode cX5_hasRoomToWrite 12 = .ok (.iload_n 1, 1) := by decide +kernel
theorem dX5_hasRoomToWrite_13 : decode cX5_hasRoomToWrite 13 = .ok (.aaload, 1) := by decide +kernel
theorem dX5_hasRoomToWrite_14 : decode cX5_hasRoomToWrite 14 = .ok (.getfield 89, 3) := by decide +kernel
theorem dX5_hasRoomToWrite_17 : decode cX5_hasRoomToWrite 17 = .ok (.bipush 6, 2) := by decide +kernel
theorem dX5_hasRoomToWrite_19 : decode cX5_hasRoomToWrite 19 = .ok (.if_icmp .ge 7, 3) := by decide +kernel
theorem dX5_hasRoomToWrite_22 : decode cX5_hasRoomToWrite 22 = .ok (.iconst 1, 1) := by decide +kernel
theorem dX5_hasRoomToWrite_23 : decode cX5_hasRoomToWrite 23 = .ok (.goto 4, 3) := by decide +kernel
theorem dX5_hasRoomToWrite_26 : decode cX5_hasRoomToWrite 26 = .ok (.iconst 0, 1) := by decide +kernel
theorem dX5_hasRoomToWrite_27 : decode cX5_hasRoomToWrite 27 = .ok (.ireturn, 1) := by decide +kernel
theorem dX5_hasRoomToCommit_0 : decode cX5_hasRoomToCommit 0 = .ok (.aload_n 0, 1) := by decide +kernel
theorem dX5_hasRoomToCommit_1 : decode cX5_hasRoomToCommit 1 = .ok (.iload_n 1, 1) := by decide +kernel
theorem dX5_hasRoomToCommit_2 : decode cX5_hasRoomToCommit 2 = .ok (.invokevirtual 85, 3) := by decide +kernel
theorem dX5_hasRoomToCommit_5 : decode cX5_hasRoomToCommit 5 = .ok (.ifCond .ne 5, 3) := by decide +kernel
theorem dX5_hasRoomToCommit_8 : decode cX5_hasRoomToCommit 8 = .ok (.iconst 0, 1) := by decide +kernel
theorem dX5_hasRoomToCommit_9 : decode cX5_hasRoomToCommit 9 = .ok (.ireturn, 1) := by decide +kernel
theorem dX5_hasRoomToCommit_10 : decode cX5_hasRoomToCommit 10 = .ok (.aload_n 0, 1) := by decide +kernel
theorem dX5_hasRoomToCommit_11 : decode cX5_hasRoomToCommit 11 = .ok (.getfield 25, 3) := by decide +kernel
theorem dX5_hasRoomToCommit_14 : decode cX5_hasRoomToCommit 14 = .ok (.iload_n 1, 1) := by decide +kernel
theorem dX5_hasRoomToCommit_15 : decode cX5_hasRoomToCommit 15 = .ok (.aaload, 1) := by decide +kernel
theorem dX5_hasRoomToCommit_16 : decode cX5_hasRoomToCommit 16 = .ok (.getfield 89, 3) := by decide +kernel
theorem dX5_hasRoomToCommit_19 : decode cX5_hasRoomToCommit 19 = .ok (.istore_n 2, 1) := by decide +kernel
theorem dX5_hasRoomToCommit_20 : decode cX5_hasRoomToCommit 20 = .ok (.aload_n 0, 1) := by decide +kernel
theorem dX5_hasRoomToCommit_21 : decode cX5_hasRoomToCommit 21 = .ok (.getfield 33, 3) := by decide +kernel
theorem dX5_hasRoomToCommit_24 : decode cX5_hasRoomToCommit 24 = .ok (.getfield 92, 3) := by decide +kernel
theorem dX5_hasRoomToCommit_27 : decode cX5_hasRoomToCommit 27 = .ok (.iload_n 2, 1) := by decide +kernel
theorem dX5_hasRoomToCommit_28 : decode cX5_hasRoomToCommit 28 = .ok (.iadd, 1) := by decide +kernel
theorem dX5_hasRoomToCommit_29 : decode cX5_hasRoomToCommit 29 = .ok (.bipush 60, 2) := by decide +kernel
theorem dX5_hasRoomToCommit_31 : decode cX5_hasRoomToCommit 31 = .ok (.if_icmp .gt 22, 3) := by decide +kernel
theorem dX5_hasRoomToCommit_34 : decode cX5_hasRoomToCommit 34 = .ok (.aload_n 0, 1) := by decide +kernel
theorem dX5_hasRoomToCommit_35 : decode cX5_hasRoomToCommit 35 = .ok (.getfield 33, 3) := by decide +kernel
theorem dX5_hasRoomToCommit_38 : decode cX5_hasRoomToCommit 38 = .ok (.getfield 95, 3) := by decide +kernel
theorem dX5_hasRoomToCommit_41 : decode cX5_hasRoomToCommit 41 = .ok (.iload_n 2, 1) := by decide +kernel
theorem dX5_hasRoomToCommit_42 : decode cX5_hasRoomToCommit 42 = .ok (.iadd, 1) := by decide +kernel
theorem dX5_hasRoomToCommit_43 : decode cX5_hasRoomToCommit 43 = .ok (.sipush 200, 3) := by decide +kernel
theorem dX5_hasRoomToCommit_46 : decode cX5_hasRoomToCommit 46 = .ok (.if_icmp .gt 7, 3) := by decide +kernel
theorem dX5_hasRoomToCommit_49 : decode cX5_hasRoomToCommit 49 = .ok (.iconst 1, 1) := by decide +kernel
theorem dX5_hasRoomToCommit_50 : decode cX5_hasRoomToCommit 50 = .ok (.goto 4, 3) := by decide +kernel
theorem dX5_hasRoomToCommit_53 : decode cX5_hasRoomToCommit 53 = .ok (.iconst 0, 1) := by decide +kernel
theorem dX5_hasRoomToCommit_54 : decode cX5_hasRoomToCommit 54 = .ok (.ireturn, 1) := by decide +kernel
theorem dX5_openAt_0 : decode cX5_openAt 0 = .ok (.iload_n 1, 1) := by decide +kernel
theorem dX5_openAt_1 : decode cX5_openAt 1 = .ok (.iconst 4, 1) := by decide +kernel
theorem dX5_openAt_2 : decode cX5_openAt 2 = .ok (.invokestatic 81, 3) := by decide +kernel
theorem dX5_openAt_5 : decode cX5_openAt 5 = .ok (.ifCond .eq 15, 3) := by decide +kernel
theorem dX5_openAt_8 : decode cX5_openAt 8 = .ok (.aload_n 0, 1) := by decide +kernel
theorem dX5_openAt_9 : decode cX5_openAt 9 = .ok (.getfield 25, 3) := by decide +kernel
theorem dX5_openAt_12 : decode cX5_openAt 12 = .ok (.iload_n 1, 1) := by decide +kernel
theorem dX5_openAt_13 : decode cX5_openAt 13 = .ok (.aaload, 1) := by decide +kernel
theorem dX5_openAt_14 : decode cX5_openAt 14 = .ok (.getfield 77, 3) := by decide +kernel
theorem dX5_openAt_17 : decode cX5_openAt 17 = .ok (.ifCond .eq 5, 3) := by decide +kernel
theorem dX5_openAt_20 : decode cX5_openAt 20 = .ok (.iconst 0, 1) := by decide +kernel
theorem dX5_openAt_21 : decode cX5_openAt 21 = .ok (.ireturn, 1) := by decide +kernel
theorem dX5_openAt_22 : decode cX5_openAt 22 = .ok (.aload_n 0, 1) := by decide +kernel
theorem dX5_openAt_23 : decode cX5_openAt 23 = .ok (.getfield 25, 3) := by decide +kernel
theorem dX5_openAt_26 : decode cX5_openAt 26 = .ok (.iload_n 1, 1) := by decide +kernel
theorem dX5_openAt_27 : decode cX5_openAt 27 = .ok (.aaload, 1) := by decide +kernel
theorem dX5_openAt_28 : decode cX5_openAt 28 = .ok (.iconst 1, 1) := by decide +kernel
theorem dX5_openAt_29 : decode cX5_openAt 29 = .ok (.putfield 77, 3) := by decide +kernel
theorem dX5_openAt_32 : decode cX5_openAt 32 = .ok (.aload_n 0, 1) := by decide +kernel
theorem dX5_openAt_33 : decode cX5_openAt 33 = .ok (.getfield 25, 3) := by decide +kernel
theorem dX5_openAt_36 : decode cX5_openAt 36 = .ok (.iload_n 1, 1) := by decide +kernel
theorem dX5_openAt_37 : decode cX5_openAt 37 = .ok (.aaload, 1) := by decide +kernel
theorem dX5_openAt_38 : decode cX5_openAt 38 = .ok (.iconst 0, 1) := by decide +kernel
theorem dX5_openAt_39 : decode cX5_openAt 39 = .ok (.putfield 89, 3) := by decide +kernel
theorem dX5_openAt_42 : decode cX5_openAt 42 = .ok (.iconst 1, 1) := by decide +kernel
theorem dX5_openAt_43 : decode cX5_openAt 43 = .ok (.ireturn, 1) := by decide +kernel
theorem dX5_writeAt_0 : decode cX5_writeAt 0 = .ok (.aload_n 0, 1) := by decide +kernel
theorem dX5_writeAt_1 : decode cX5_writeAt 1 = .ok (.iload_n 1, 1) := by decide +kernel
theorem dX5_writeAt_2 : decode cX5_writeAt 2 = .ok (.invokevirtual 98, 3) := by decide +kernel
theorem dX5_writeAt_5 : decode cX5_writeAt 5 = .ok (.ifCond .ne 5, 3) := by decide +kernel
theorem dX5_writeAt_8 : decode cX5_writeAt 8 = .ok (.iconst (-1), 1) := by decide +kernel
theorem dX5_writeAt_9 : decode cX5_writeAt 9 = .ok (.ireturn, 1) := by decide +kernel
theorem dX5_writeAt_10 : decode cX5_writeAt 10 = .ok (.aload_n 0, 1) := by decide +kernel
theorem dX5_writeAt_11 : decode cX5_writeAt 11 = .ok (.getfield 25, 3) := by decide +kernel
theorem dX5_writeAt_14 : decode cX5_writeAt 14 = .ok (.iload_n 1, 1) := by decide +kernel
theorem dX5_writeAt_15 : decode cX5_writeAt 15 = .ok (.aaload, 1) := by decide +kernel
theorem dX5_writeAt_16 : decode cX5_writeAt 16 = .ok (.aload_n 0, 1) := by decide +kernel
theorem dX5_writeAt_17 : decode cX5_writeAt 17 = .ok (.getfield 55, 3) := by decide +kernel
theorem dX5_writeAt_20 : decode cX5_writeAt 20 = .ok (.iload_n 2, 1) := by decide +kernel
theorem dX5_writeAt_21 : decode cX5_writeAt 21 = .ok (.iload_n 3, 1) := by decide +kernel
theorem dX5_writeAt_22 : decode cX5_writeAt 22 = .ok (.invokevirtual 101, 3) := by decide +kernel
theorem dX5_writeAt_25 : decode cX5_writeAt 25 = .ok (.aload_n 0, 1) := by decide +kernel
theorem dX5_writeAt_26 : decode cX5_writeAt 26 = .ok (.dup, 1) := by decide +kernel
theorem dX5_writeAt_27 : decode cX5_writeAt 27 = .ok (.getfield 55, 3) := by decide +kernel
theorem dX5_writeAt_30 : decode cX5_writeAt 30 = .ok (.iconst 1, 1) := by decide +kernel
theorem dX5_writeAt_31 : decode cX5_writeAt 31 = .ok (.iadd, 1) := by decide +kernel
theorem dX5_writeAt_32 : decode cX5_writeAt 32 = .ok (.putfield 55, 3) := by decide +kernel
theorem dX5_writeAt_35 : decode cX5_writeAt 35 = .ok (.aload_n 0, 1) := by decide +kernel
theorem dX5_writeAt_36 : decode cX5_writeAt 36 = .ok (.getfield 55, 3) := by decide +kernel
theorem dX5_writeAt_39 : decode cX5_writeAt 39 = .ok (.iconst 1, 1) := by decide +kernel
theorem dX5_writeAt_40 : decode cX5_writeAt 40 = .ok (.isub, 1) := by decide +kernel
theorem dX5_writeAt_41 : decode cX5_writeAt 41 = .ok (.ireturn, 1) := by decide +kernel
theorem dX5_commitAt_0 : decode cX5_commitAt 0 = .ok (.aload_n 0, 1) := by decide +kernel
theorem dX5_commitAt_1 : decode cX5_commitAt 1 = .ok (.iload_n 1, 1) := by decide +kernel
theorem dX5_commitAt_2 : decode cX5_commitAt 2 = .ok (.invokevirtual 105, 3) := by decide +kernel
theorem dX5_commitAt_5 : decode cX5_commitAt 5 = .ok (.ifCond .ne 4, 3) := by decide +kernel
theorem dX5_commitAt_8 : decode cX5_commitAt 8 = .ok (.return_, 1) := by decide +kernel
theorem dX5_commitAt_9 : decode cX5_commitAt 9 = .ok (.aload_n 0, 1) := by decide +kernel
theorem dX5_commitAt_10 : decode cX5_commitAt 10 = .ok (.getfield 25, 3) := by decide +kernel
theorem dX5_commitAt_13 : decode cX5_commitAt 13 = .ok (.iload_n 1, 1) := by decide +kernel
theorem dX5_commitAt_14 : decode cX5_commitAt 14 = .ok (.aaload, 1) := by decide +kernel
theorem dX5_commitAt_15 : decode cX5_commitAt 15 = .ok (.astore_n 2, 1) := by decide +kernel
theorem dX5_commitAt_16 : decode cX5_commitAt 16 = .ok (.aload_n 0, 1) := by decide +kernel
theorem dX5_commitAt_17 : decode cX5_commitAt 17 = .ok (.getfield 33, 3) := by decide +kernel
theorem dX5_commitAt_20 : decode cX5_commitAt 20 = .ok (.getfield 95, 3) := by decide +kernel
theorem dX5_commitAt_23 : decode cX5_commitAt 23 = .ok (.istore_n 3, 1) := by decide +kernel
theorem dX5_commitAt_24 : decode cX5_commitAt 24 = .ok (.aload_n 0, 1) := by decide +kernel
theorem dX5_commitAt_25 : decode cX5_commitAt 25 = .ok (.getfield 18, 3) := by decide +kernel
theorem dX5_commitAt_28 : decode cX5_commitAt 28 = .ok (.iconst 0, 1) := by decide +kernel
theorem dX5_commitAt_29 : decode cX5_commitAt 29 = .ok (.iaload, 1) := by decide +kernel
theorem dX5_commitAt_30 : decode cX5_commitAt 30 = .ok (.iconst 1, 1) := by decide +kernel
theorem dX5_commitAt_31 : decode cX5_commitAt 31 = .ok (.if_icmp .ne 7, 3) := by decide +kernel
theorem dX5_commitAt_34 : decode cX5_commitAt 34 = .ok (.iconst 1, 1) := by decide +kernel
theorem dX5_commitAt_35 : decode cX5_commitAt 35 = .ok (.goto 4, 3) := by decide +kernel
theorem dX5_commitAt_38 : decode cX5_commitAt 38 = .ok (.iconst 0, 1) := by decide +kernel
theorem dX5_commitAt_39 : decode cX5_commitAt 39 = .ok (.istore 4, 2) := by decide +kernel
theorem dX5_commitAt_41 : decode cX5_commitAt 41 = .ok (.iconst 0, 1) := by decide +kernel
theorem dX5_commitAt_42 : decode cX5_commitAt 42 = .ok (.istore 5, 2) := by decide +kernel
theorem dX5_commitAt_44 : decode cX5_commitAt 44 = .ok (.iload 5, 2) := by decide +kernel
theorem dX5_commitAt_46 : decode cX5_commitAt 46 = .ok (.aload_n 2, 1) := by decide +kernel
theorem dX5_commitAt_47 : decode cX5_commitAt 47 = .ok (.getfield 89, 3) := by decide +kernel
theorem dX5_commitAt_50 : decode cX5_commitAt 50 = .ok (.if_icmp .ge 60, 3) := by decide +kernel
theorem dX5_commitAt_53 : decode cX5_commitAt 53 = .ok (.iload 4, 2) := by decide +kernel
theorem dX5_commitAt_55 : decode cX5_commitAt 55 = .ok (.ifCond .eq 13, 3) := by decide +kernel
theorem dX5_commitAt_58 : decode cX5_commitAt 58 = .ok (.aload_n 2, 1) := by decide +kernel
theorem dX5_commitAt_59 : decode cX5_commitAt 59 = .ok (.getfield 108, 3) := by decide +kernel
theorem dX5_commitAt_62 : decode cX5_commitAt 62 = .ok (.iload 5, 2) := by decide +kernel
theorem dX5_commitAt_64 : decode cX5_commitAt 64 = .ok (.iaload, 1) := by decide +kernel
theorem dX5_commitAt_65 : decode cX5_commitAt 65 = .ok (.goto 7, 3) := by decide +kernel
theorem dX5_commitAt_68 : decode cX5_commitAt 68 = .ok (.iload_n 3, 1) := by decide +kernel
theorem dX5_commitAt_69 : decode cX5_commitAt 69 = .ok (.iload 5, 2) := by decide +kernel
theorem dX5_commitAt_71 : decode cX5_commitAt 71 = .ok (.iadd, 1) := by decide +kernel
theorem dX5_commitAt_72 : decode cX5_commitAt 72 = .ok (.istore 6, 2) := by decide +kernel
theorem dX5_commitAt_74 : decode cX5_commitAt 74 = .ok (.aload_n 0, 1) := by decide +kernel
theorem dX5_commitAt_75 : decode cX5_commitAt 75 = .ok (.getfield 33, 3) := by decide +kernel
theorem dX5_commitAt_78 : decode cX5_commitAt 78 = .ok (.iload 6, 2) := by decide +kernel
theorem dX5_commitAt_80 : decode cX5_commitAt 80 = .ok (.aload_n 2, 1) := by decide +kernel
theorem dX5_commitAt_81 : decode cX5_commitAt 81 = .ok (.getfield 108, 3) := by decide +kernel
theorem dX5_commitAt_84 : decode cX5_commitAt 84 = .ok (.iload 5, 2) := by decide +kernel
theorem dX5_commitAt_86 : decode cX5_commitAt 86 = .ok (.iaload, 1) := by decide +kernel
theorem dX5_commitAt_87 : decode cX5_commitAt 87 = .ok (.aload_n 2, 1) := by decide +kernel
theorem dX5_commitAt_88 : decode cX5_commitAt 88 = .ok (.getfield 111, 3) := by decide +kernel
theorem dX5_commitAt_91 : decode cX5_commitAt 91 = .ok (.iload 5, 2) := by decide +kernel
theorem dX5_commitAt_93 : decode cX5_commitAt 93 = .ok (.iaload, 1) := by decide +kernel
theorem dX5_commitAt_94 : decode cX5_commitAt 94 = .ok (.aload_n 2, 1) := by decide +kernel
theorem dX5_commitAt_95 : decode cX5_commitAt 95 = .ok (.getfield 114, 3) := by decide +kernel
theorem dX5_commitAt_98 : decode cX5_commitAt 98 = .ok (.iload 5, 2) := by decide +kernel
theorem dX5_commitAt_100 : decode cX5_commitAt 100 = .ok (.iaload, 1) := by decide +kernel
theorem dX5_commitAt_101 : decode cX5_commitAt 101 = .ok (.invokevirtual 117, 3) := by decide +kernel
theorem dX5_commitAt_104 : decode cX5_commitAt 104 = .ok (.iinc 5 1, 3) := by decide +kernel
theorem dX5_commitAt_107 : decode cX5_commitAt 107 = .ok (.goto (-63), 3) := by decide +kernel
theorem dX5_commitAt_110 : decode cX5_commitAt 110 = .ok (.aload_n 2, 1) := by decide +kernel
theorem dX5_commitAt_111 : decode cX5_commitAt 111 = .ok (.iconst 0, 1) := by decide +kernel
theorem dX5_commitAt_112 : decode cX5_commitAt 112 = .ok (.putfield 77, 3) := by decide +kernel
theorem dX5_commitAt_115 : decode cX5_commitAt 115 = .ok (.return_, 1) := by decide +kernel
theorem dX5_dropAt_0 : decode cX5_dropAt 0 = .ok (.aload_n 0, 1) := by decide +kernel
theorem dX5_dropAt_1 : decode cX5_dropAt 1 = .ok (.iload_n 1, 1) := by decide +kernel
theorem dX5_dropAt_2 : decode cX5_dropAt 2 = .ok (.invokevirtual 85, 3) := by decide +kernel
theorem dX5_dropAt_5 : decode cX5_dropAt 5 = .ok (.ifCond .ne 5, 3) := by decide +kernel
theorem dX5_dropAt_8 : decode cX5_dropAt 8 = .ok (.iconst (-1), 1) := by decide +kernel
theorem dX5_dropAt_9 : decode cX5_dropAt 9 = .ok (.ireturn, 1) := by decide +kernel
theorem dX5_dropAt_10 : decode cX5_dropAt 10 = .ok (.aload_n 0, 1) := by decide +kernel
theorem dX5_dropAt_11 : decode cX5_dropAt 11 = .ok (.getfield 25, 3) := by decide +kernel
theorem dX5_dropAt_14 : decode cX5_dropAt 14 = .ok (.iload_n 1, 1) := by decide +kernel
theorem dX5_dropAt_15 : decode cX5_dropAt 15 = .ok (.aaload, 1) := by decide +kernel
theorem dX5_dropAt_16 : decode cX5_dropAt 16 = .ok (.iconst 0, 1) := by decide +kernel
theorem dX5_dropAt_17 : decode cX5_dropAt 17 = .ok (.putfield 77, 3) := by decide +kernel
theorem dX5_dropAt_20 : decode cX5_dropAt 20 = .ok (.aload_n 0, 1) := by decide +kernel
theorem dX5_dropAt_21 : decode cX5_dropAt 21 = .ok (.getfield 25, 3) := by decide +kernel
theorem dX5_dropAt_24 : decode cX5_dropAt 24 = .ok (.iload_n 1, 1) := by decide +kernel
theorem dX5_dropAt_25 : decode cX5_dropAt 25 = .ok (.aaload, 1) := by decide +kernel
theorem dX5_dropAt_26 : decode cX5_dropAt 26 = .ok (.getfield 89, 3) := by decide +kernel
theorem dX5_dropAt_29 : decode cX5_dropAt 29 = .ok (.ireturn, 1) := by decide +kernel
theorem dX5_passTicks_0 : decode cX5_passTicks 0 = .ok (.iconst 0, 1) := by decide +kernel
theorem dX5_passTicks_1 : decode cX5_passTicks 1 = .ok (.istore_n 2, 1) := by decide +kernel
theorem dX5_passTicks_2 : decode cX5_passTicks 2 = .ok (.iconst 0, 1) := by decide +kernel
theorem dX5_passTicks_3 : decode cX5_passTicks 3 = .ok (.istore_n 3, 1) := by decide +kernel
theorem dX5_passTicks_4 : decode cX5_passTicks 4 = .ok (.iload_n 3, 1) := by decide +kernel
theorem dX5_passTicks_5 : decode cX5_passTicks 5 = .ok (.iload_n 1, 1) := by decide +kernel
theorem dX5_passTicks_6 : decode cX5_passTicks 6 = .ok (.if_icmp .ge 22, 3) := by decide +kernel
theorem dX5_passTicks_9 : decode cX5_passTicks 9 = .ok (.iload_n 3, 1) := by decide +kernel
theorem dX5_passTicks_10 : decode cX5_passTicks 10 = .ok (.bipush 99, 2) := by decide +kernel
theorem dX5_passTicks_12 : decode cX5_passTicks 12 = .ok (.if_icmp .ge 16, 3) := by decide +kernel
theorem dX5_passTicks_15 : decode cX5_passTicks 15 = .ok (.iload_n 2, 1) := by decide +kernel
theorem dX5_passTicks_16 : decode cX5_passTicks 16 = .ok (.aload_n 0, 1) := by decide +kernel
theorem dX5_passTicks_17 : decode cX5_passTicks 17 = .ok (.invokevirtual 120, 3) := by decide +kernel
theorem dX5_passTicks_20 : decode cX5_passTicks 20 = .ok (.iadd, 1) := by decide +kernel
theorem dX5_passTicks_21 : decode cX5_passTicks 21 = .ok (.istore_n 2, 1) := by decide +kernel
theorem dX5_passTicks_22 : decode cX5_passTicks 22 = .ok (.iinc 3 1, 3) := by decide +kernel
theorem dX5_passTicks_25 : decode cX5_passTicks 25 = .ok (.goto (-21), 3) := by decide +kernel
theorem dX5_passTicks_28 : decode cX5_passTicks 28 = .ok (.iload_n 2, 1) := by decide +kernel
theorem dX5_passTicks_29 : decode cX5_passTicks 29 = .ok (.ireturn, 1) := by decide +kernel
theorem dX5_passTick_0 : decode cX5_passTick 0 = .ok (.aload_n 0, 1) := by decide +kernel
theorem dX5_passTick_1 : decode cX5_passTick 1 = .ok (.dup, 1) := by decide +kernel
theorem dX5_passTick_2 : decode cX5_passTick 2 = .ok (.getfield 51, 3) := by decide +kernel
theorem dX5_passTick_5 : decode cX5_passTick 5 = .ok (.iconst 1, 1) := by decide +kernel
theorem dX5_passTick_6 : decode cX5_passTick 6 = .ok (.iadd, 1) := by decide +kernel
theorem dX5_passTick_7 : decode cX5_passTick 7 = .ok (.putfield 51, 3) := by decide +kernel
theorem dX5_passTick_10 : decode cX5_passTick 10 = .ok (.iconst 0, 1) := by decide +kernel
theorem dX5_passTick_11 : decode cX5_passTick 11 = .ok (.istore_n 1, 1) := by decide +kernel
theorem dX5_passTick_12 : decode cX5_passTick 12 = .ok (.aload_n 0, 1) := by decide +kernel
theorem dX5_passTick_13 : decode cX5_passTick 13 = .ok (.getfield 47, 3) := by decide +kernel
theorem dX5_passTick_16 : decode cX5_passTick 16 = .ok (.aload_n 0, 1) := by decide +kernel
theorem dX5_passTick_17 : decode cX5_passTick 17 = .ok (.getfield 51, 3) := by decide +kernel
theorem dX5_passTick_20 : decode cX5_passTick 20 = .ok (.invokevirtual 124, 3) := by decide +kernel
theorem dX5_passTick_23 : decode cX5_passTick 23 = .ok (.istore_n 2, 1) := by decide +kernel
theorem dX5_passTick_24 : decode cX5_passTick 24 = .ok (.iconst 0, 1) := by decide +kernel
theorem dX5_passTick_25 : decode cX5_passTick 25 = .ok (.istore_n 3, 1) := by decide +kernel
theorem dX5_passTick_26 : decode cX5_passTick 26 = .ok (.iload_n 3, 1) := by decide +kernel
theorem dX5_passTick_27 : decode cX5_passTick 27 = .ok (.iload_n 2, 1) := by decide +kernel
theorem dX5_passTick_28 : decode cX5_passTick 28 = .ok (.if_icmp .ge 16, 3) := by decide +kernel
theorem dX5_passTick_31 : decode cX5_passTick 31 = .ok (.iload_n 1, 1) := by decide +kernel
theorem dX5_passTick_32 : decode cX5_passTick 32 = .ok (.aload_n 0, 1) := by decide +kernel
theorem dX5_passTick_33 : decode cX5_passTick 33 = .ok (.invokevirtual 128, 3) := by decide +kernel
theorem dX5_passTick_36 : decode cX5_passTick 36 = .ok (.iadd, 1) := by decide +kernel
theorem dX5_passTick_37 : decode cX5_passTick 37 = .ok (.istore_n 1, 1) := by decide +kernel
theorem dX5_passTick_38 : decode cX5_passTick 38 = .ok (.iinc 3 1, 3) := by decide +kernel
theorem dX5_passTick_41 : decode cX5_passTick 41 = .ok (.goto (-15), 3) := by decide +kernel
theorem dX5_passTick_44 : decode cX5_passTick 44 = .ok (.iconst 0, 1) := by decide +kernel
theorem dX5_passTick_45 : decode cX5_passTick 45 = .ok (.istore_n 3, 1) := by decide +kernel
theorem dX5_passTick_46 : decode cX5_passTick 46 = .ok (.iload_n 3, 1) := by decide +kernel
theorem dX5_passTick_47 : decode cX5_passTick 47 = .ok (.iconst 3, 1) := by decide +kernel
theorem dX5_passTick_48 : decode cX5_passTick 48 = .ok (.if_icmp .ge 14, 3) := by decide +kernel
theorem dX5_passTick_51 : decode cX5_passTick 51 = .ok (.aload_n 0, 1) := by decide +kernel
theorem dX5_passTick_52 : decode cX5_passTick 52 = .ok (.iload_n 3, 1) := by decide +kernel
theorem dX5_passTick_53 : decode cX5_passTick 53 = .ok (.invokevirtual 131, 3) := by decide +kernel
theorem dX5_passTick_56 : decode cX5_passTick 56 = .ok (.iinc 3 1, 3) := by decide +kernel
theorem dX5_passTick_59 : decode cX5_passTick 59 = .ok (.goto (-13), 3) := by decide +kernel
theorem dX5_passTick_62 : decode cX5_passTick 62 = .ok (.iload_n 1, 1) := by decide +kernel
theorem dX5_passTick_63 : decode cX5_passTick 63 = .ok (.ireturn, 1) := by decide +kernel
theorem dX5_firstComes_0 : decode cX5_firstComes 0 = .ok (.aload_n 0, 1) := by decide +kernel
theorem dX5_firstComes_1 : decode cX5_firstComes 1 = .ok (.getfield 47, 3) := by decide +kernel
theorem dX5_firstComes_4 : decode cX5_firstComes 4 = .ok (.getfield 135, 3) := by decide +kernel
theorem dX5_firstComes_7 : decode cX5_firstComes 7 = .ok (.iconst 0, 1) := by decide +kernel
theorem dX5_firstComes_8 : decode cX5_firstComes 8 = .ok (.aaload, 1) := by decide +kernel
theorem dX5_firstComes_9 : decode cX5_firstComes 9 = .ok (.astore_n 1, 1) := by decide +kernel
theorem dX5_firstComes_10 : decode cX5_firstComes 10 = .ok (.aload_n 1, 1) := by decide +kernel
theorem dX5_firstComes_11 : decode cX5_firstComes 11 = .ok (.getfield 139, 3) := by decide +kernel
theorem dX5_firstComes_14 : decode cX5_firstComes 14 = .ok (.istore_n 2, 1) := by decide +kernel
theorem dX5_firstComes_15 : decode cX5_firstComes 15 = .ok (.aload_n 1, 1) := by decide +kernel
theorem dX5_firstComes_16 : decode cX5_firstComes 16 = .ok (.getfield 144, 3) := by decide +kernel
theorem dX5_firstComes_19 : decode cX5_firstComes 19 = .ok (.istore_n 3, 1) := by decide +kernel
theorem dX5_firstComes_20 : decode cX5_firstComes 20 = .ok (.iconst 0, 1) := by decide +kernel
theorem dX5_firstComes_21 : decode cX5_firstComes 21 = .ok (.istore 4, 2) := by decide +kernel
theorem dX5_firstComes_23 : decode cX5_firstComes 23 = .ok (.iconst 0, 1) := by decide +kernel
theorem dX5_firstComes_24 : decode cX5_firstComes 24 = .ok (.istore 5, 2) := by decide +kernel
theorem dX5_firstComes_26 : decode cX5_firstComes 26 = .ok (.iload 5, 2) := by decide +kernel
theorem dX5_firstComes_28 : decode cX5_firstComes 28 = .ok (.aload_n 1, 1) := by decide +kernel
theorem dX5_firstComes_29 : decode cX5_firstComes 29 = .ok (.getfield 147, 3) := by decide +kernel
theorem dX5_firstComes_32 : decode cX5_firstComes 32 = .ok (.if_icmp .ge 26, 3) := by decide +kernel
theorem dX5_firstComes_35 : decode cX5_firstComes 35 = .ok (.iload 4, 2) := by decide +kernel
theorem dX5_firstComes_37 : decode cX5_firstComes 37 = .ok (.aload_n 0, 1) := by decide +kernel
theorem dX5_firstComes_38 : decode cX5_firstComes 38 = .ok (.aload_n 1, 1) := by decide +kernel
theorem dX5_firstComes_39 : decode cX5_firstComes 39 = .ok (.getfield 148, 3) := by decide +kernel
theorem dX5_firstComes_42 : decode cX5_firstComes 42 = .ok (.iload 5, 2) := by decide +kernel
theorem dX5_firstComes_44 : decode cX5_firstComes 44 = .ok (.iaload, 1) := by decide +kernel
theorem dX5_firstComes_45 : decode cX5_firstComes 45 = .ok (.iload_n 2, 1) := by decide +kernel
theorem dX5_firstComes_46 : decode cX5_firstComes 46 = .ok (.invokevirtual 150, 3) := by decide +kernel
theorem dX5_firstComes_49 : decode cX5_firstComes 49 = .ok (.iadd, 1) := by decide +kernel
theorem dX5_firstComes_50 : decode cX5_firstComes 50 = .ok (.istore 4, 2) := by decide +kernel
theorem dX5_firstComes_52 : decode cX5_firstComes 52 = .ok (.iinc 5 1, 3) := by decide +kernel
theorem dX5_firstComes_55 : decode cX5_firstComes 55 = .ok (.goto (-29), 3) := by decide +kernel
theorem dX5_firstComes_58 : decode cX5_firstComes 58 = .ok (.aload_n 1, 1) := by decide +kernel
theorem dX5_firstComes_59 : decode cX5_firstComes 59 = .ok (.getfield 154, 3) := by decide +kernel
theorem dX5_firstComes_62 : decode cX5_firstComes 62 = .ok (.istore 5, 2) := by decide +kernel
theorem dX5_firstComes_64 : decode cX5_firstComes 64 = .ok (.aload_n 0, 1) := by decide +kernel
theorem dX5_firstComes_65 : decode cX5_firstComes 65 = .ok (.getfield 47, 3) := by decide +kernel
theorem dX5_firstComes_68 : decode cX5_firstComes 68 = .ok (.invokevirtual 157, 3) := by decide +kernel
theorem dX5_firstComes_71 : decode cX5_firstComes 71 = .ok (.iload 5, 2) := by decide +kernel
theorem dX5_firstComes_73 : decode cX5_firstComes 73 = .ok (.ifCond .eq 29, 3) := by decide +kernel
theorem dX5_firstComes_76 : decode cX5_firstComes 76 = .ok (.aload_n 0, 1) := by decide +kernel
theorem dX5_firstComes_77 : decode cX5_firstComes 77 = .ok (.getfield 47, 3) := by decide +kernel
theorem dX5_firstComes_80 : decode cX5_firstComes 80 = .ok (.dup, 1) := by decide +kernel
theorem dX5_firstComes_81 : decode cX5_firstComes 81 = .ok (.getfield 160, 3) := by decide +kernel
theorem dX5_firstComes_84 : decode cX5_firstComes 84 = .ok (.iconst 1, 1) := by decide +kernel
theorem dX5_firstComes_85 : decode cX5_firstComes 85 = .ok (.iadd, 1) := by decide +kernel
theorem dX5_firstComes_86 : decode cX5_firstComes 86 = .ok (.putfield 160, 3) := by decide +kernel
theorem dX5_firstComes_89 : decode cX5_firstComes 89 = .ok (.aload_n 0, 1) := by decide +kernel
theorem dX5_firstComes_90 : decode cX5_firstComes 90 = .ok (.getfield 39, 3) := by decide +kernel
theorem dX5_firstComes_93 : decode cX5_firstComes 93 = .ok (.iload_n 2, 1) := by decide +kernel
theorem dX5_firstComes_94 : decode cX5_firstComes 94 = .ok (.aaload, 1) := by decide +kernel
theorem dX5_firstComes_95 : decode cX5_firstComes 95 = .ok (.iload_n 3, 1) := by decide +kernel
theorem dX5_firstComes_96 : decode cX5_firstComes 96 = .ok (.invokevirtual 163, 3) := by decide +kernel
theorem dX5_firstComes_99 : decode cX5_firstComes 99 = .ok (.goto 19, 3) := by decide +kernel
theorem dX5_firstComes_102 : decode cX5_firstComes 102 = .ok (.aload_n 0, 1) := by decide +kernel
theorem dX5_firstComes_103 : decode cX5_firstComes 103 = .ok (.getfield 47, 3) := by decide +kernel
theorem dX5_firstComes_106 : decode cX5_firstComes 106 = .ok (.invokevirtual 166, 3) := by decide +kernel
theorem dX5_firstComes_109 : decode cX5_firstComes 109 = .ok (.iload_n 2, 1) := by decide +kernel
theorem dX5_firstComes_110 : decode cX5_firstComes 110 = .ok (.iload_n 3, 1) := by decide +kernel
theorem dX5_firstComes_111 : decode cX5_firstComes 111 = .ok (.invokevirtual 170, 3) := by decide +kernel
theorem dX5_firstComes_114 : decode cX5_firstComes 114 = .ok (.aload_n 0, 1) := by decide +kernel
theorem dX5_firstComes_115 : decode cX5_firstComes 115 = .ok (.invokevirtual 174, 3) := by decide +kernel
theorem dX5_firstComes_118 : decode cX5_firstComes 118 = .ok (.iload 4, 2) := by decide +kernel
theorem dX5_firstComes_120 : decode cX5_firstComes 120 = .ok (.ireturn, 1) := by decide +kernel
theorem dX5_rowComes_0 : decode cX5_rowComes 0 = .ok (.aload_n 0, 1) := by decide +kernel
theorem dX5_rowComes_1 : decode cX5_rowComes 1 = .ok (.getfield 39, 3) := by decide +kernel
theorem dX5_rowComes_4 : decode cX5_rowComes 4 = .ok (.iload_n 2, 1) := by decide +kernel
theorem dX5_rowComes_5 : decode cX5_rowComes 5 = .ok (.aaload, 1) := by decide +kernel
theorem dX5_rowComes_6 : decode cX5_rowComes 6 = .ok (.astore_n 3, 1) := by decide +kernel
theorem dX5_rowComes_7 : decode cX5_rowComes 7 = .ok (.aload_n 0, 1) := by decide +kernel
theorem dX5_rowComes_8 : decode cX5_rowComes 8 = .ok (.getfield 33, 3) := by decide +kernel
theorem dX5_rowComes_11 : decode cX5_rowComes 11 = .ok (.getfield 177, 3) := by decide +kernel
theorem dX5_rowComes_14 : decode cX5_rowComes 14 = .ok (.iload_n 1, 1) := by decide +kernel
theorem dX5_rowComes_15 : decode cX5_rowComes 15 = .ok (.iaload, 1) := by decide +kernel
theorem dX5_rowComes_16 : decode cX5_rowComes 16 = .ok (.istore 4, 2) := by decide +kernel
theorem dX5_rowComes_18 : decode cX5_rowComes 18 = .ok (.aload_n 3, 1) := by decide +kernel
theorem dX5_rowComes_19 : decode cX5_rowComes 19 = .ok (.iload 4, 2) := by decide +kernel
theorem dX5_rowComes_21 : decode cX5_rowComes 21 = .ok (.aload_n 0, 1) := by decide +kernel
theorem dX5_rowComes_22 : decode cX5_rowComes 22 = .ok (.getfield 18, 3) := by decide +kernel
theorem dX5_rowComes_25 : decode cX5_rowComes 25 = .ok (.iconst 5, 1) := by decide +kernel
theorem dX5_rowComes_26 : decode cX5_rowComes 26 = .ok (.iaload, 1) := by decide +kernel
theorem dX5_rowComes_27 : decode cX5_rowComes 27 = .ok (.iconst 1, 1) := by decide +kernel
theorem dX5_rowComes_28 : decode cX5_rowComes 28 = .ok (.if_icmp .ne 7, 3) := by decide +kernel
theorem dX5_rowComes_31 : decode cX5_rowComes 31 = .ok (.iconst 1, 1) := by decide +kernel
theorem dX5_rowComes_32 : decode cX5_rowComes 32 = .ok (.goto 4, 3) := by decide +kernel
theorem dX5_rowComes_35 : decode cX5_rowComes 35 = .ok (.iconst 0, 1) := by decide +kernel
theorem dX5_rowComes_36 : decode cX5_rowComes 36 = .ok (.invokevirtual 180, 3) := by decide +kernel
theorem dX5_rowComes_39 : decode cX5_rowComes 39 = .ok (.ifCond .eq 15, 3) := by decide +kernel
theorem dX5_rowComes_42 : decode cX5_rowComes 42 = .ok (.aload_n 3, 1) := by decide +kernel
theorem dX5_rowComes_43 : decode cX5_rowComes 43 = .ok (.dup, 1) := by decide +kernel
theorem dX5_rowComes_44 : decode cX5_rowComes 44 = .ok (.getfield 184, 3) := by decide +kernel
theorem dX5_rowComes_47 : decode cX5_rowComes 47 = .ok (.iconst 1, 1) := by decide +kernel
theorem dX5_rowComes_48 : decode cX5_rowComes 48 = .ok (.iadd, 1) := by decide +kernel
theorem dX5_rowComes_49 : decode cX5_rowComes 49 = .ok (.putfield 184, 3) := by decide +kernel
theorem dX5_rowComes_52 : decode cX5_rowComes 52 = .ok (.iconst 0, 1) := by decide +kernel
theorem dX5_rowComes_53 : decode cX5_rowComes 53 = .ok (.ireturn, 1) := by decide +kernel
theorem dX5_rowComes_54 : decode cX5_rowComes 54 = .ok (.iconst 1, 1) := by decide +kernel
theorem dX5_rowComes_55 : decode cX5_rowComes 55 = .ok (.iload_n 2, 1) := by decide +kernel
theorem dX5_rowComes_56 : decode cX5_rowComes 56 = .ok (.ishl, 1) := by decide +kernel
theorem dX5_rowComes_57 : decode cX5_rowComes 57 = .ok (.istore 5, 2) := by decide +kernel
theorem dX5_rowComes_59 : decode cX5_rowComes 59 = .ok (.aload_n 0, 1) := by decide +kernel
theorem dX5_rowComes_60 : decode cX5_rowComes 60 = .ok (.getfield 33, 3) := by decide +kernel
theorem dX5_rowComes_63 : decode cX5_rowComes 63 = .ok (.getfield 187, 3) := by decide +kernel
theorem dX5_rowComes_66 : decode cX5_rowComes 66 = .ok (.iload_n 1, 1) := by decide +kernel
theorem dX5_rowComes_67 : decode cX5_rowComes 67 = .ok (.iaload, 1) := by decide +kernel
theorem dX5_rowComes_68 : decode cX5_rowComes 68 = .ok (.iload 5, 2) := by decide +kernel
theorem dX5_rowComes_70 : decode cX5_rowComes 70 = .ok (.iand, 1) := by decide +kernel
theorem dX5_rowComes_71 : decode cX5_rowComes 71 = .ok (.ifCond .eq 13, 3) := by decide +kernel
theorem dX5_rowComes_74 : decode cX5_rowComes 74 = .ok (.aload_n 3, 1) := by decide +kernel
theorem dX5_rowComes_75 : decode cX5_rowComes 75 = .ok (.dup, 1) := by decide +kernel
theorem dX5_rowComes_76 : decode cX5_rowComes 76 = .ok (.getfield 190, 3) := by decide +kernel
theorem dX5_rowComes_79 : decode cX5_rowComes 79 = .ok (.iconst 1, 1) := by decide +kernel
theorem dX5_rowComes_80 : decode cX5_rowComes 80 = .ok (.iadd, 1) := by decide +kernel
theorem dX5_rowComes_81 : decode cX5_rowComes 81 = .ok (.putfield 190, 3) := by decide +kernel
theorem dX5_rowComes_84 : decode cX5_rowComes 84 = .ok (.aload_n 0, 1) := by decide +kernel
theorem dX5_rowComes_85 : decode cX5_rowComes 85 = .ok (.getfield 33, 3) := by decide +kernel
theorem dX5_rowComes_88 : decode cX5_rowComes 88 = .ok (.getfield 187, 3) := by decide +kernel
theorem dX5_rowComes_91 : decode cX5_rowComes 91 = .ok (.iload_n 1, 1) := by decide +kernel
theorem dX5_rowComes_92 : decode cX5_rowComes 92 = .ok (.dup2, 1) := by decide +kernel
theorem dX5_rowComes_93 : decode cX5_rowComes 93 = .ok (.iaload, 1) := by decide +kernel
theorem dX5_rowComes_94 : decode cX5_rowComes 94 = .ok (.iload 5, 2) := by decide +kernel
theorem dX5_rowComes_96 : decode cX5_rowComes 96 = .ok (.ior, 1) := by decide +kernel
theorem dX5_rowComes_97 : decode cX5_rowComes 97 = .ok (.iastore, 1) := by decide +kernel
theorem dX5_rowComes_98 : decode cX5_rowComes 98 = .ok (.aload_n 3, 1) := by decide +kernel
theorem dX5_rowComes_99 : decode cX5_rowComes 99 = .ok (.iload 4, 2) := by decide +kernel
theorem dX5_rowComes_101 : decode cX5_rowComes 101 = .ok (.aload_n 0, 1) := by decide +kernel
theorem dX5_rowComes_102 : decode cX5_rowComes 102 = .ok (.getfield 33, 3) := by decide +kernel
theorem dX5_rowComes_105 : decode cX5_rowComes 105 = .ok (.getfield 193, 3) := by decide +kernel
theorem dX5_rowComes_108 : decode cX5_rowComes 108 = .ok (.iload_n 1, 1) := by decide +kernel
theorem dX5_rowComes_109 : decode cX5_rowComes 109 = .ok (.iaload, 1) := by decide +kernel
theorem dX5_rowComes_110 : decode cX5_rowComes 110 = .ok (.aload_n 0, 1) := by decide +kernel
theorem dX5_rowComes_111 : decode cX5_rowComes 111 = .ok (.getfield 18, 3) := by decide +kernel
theorem dX5_rowComes_114 : decode cX5_rowComes 114 = .ok (.bipush 6, 2) := by decide +kernel
theorem dX5_rowComes_116 : decode cX5_rowComes 116 = .ok (.iaload, 1) := by decide +kernel
theorem dX5_rowComes_117 : decode cX5_rowComes 117 = .ok (.invokevirtual 194, 3) := by decide +kernel
theorem dX5_rowComes_120 : decode cX5_rowComes 120 = .ok (.iconst 1, 1) := by decide +kernel
theorem dX5_rowComes_121 : decode cX5_rowComes 121 = .ok (.ireturn, 1) := by decide +kernel
theorem dX5_sendBatch_0 : decode cX5_sendBatch 0 = .ok (.aload_n 0, 1) := by decide +kernel
theorem dX5_sendBatch_1 : decode cX5_sendBatch 1 = .ok (.getfield 39, 3) := by decide +kernel
theorem dX5_sendBatch_4 : decode cX5_sendBatch 4 = .ok (.iload_n 1, 1) := by decide +kernel
theorem dX5_sendBatch_5 : decode cX5_sendBatch 5 = .ok (.aaload, 1) := by decide +kernel
theorem dX5_sendBatch_6 : decode cX5_sendBatch 6 = .ok (.astore_n 2, 1) := by decide +kernel
theorem dX5_sendBatch_7 : decode cX5_sendBatch 7 = .ok (.aload_n 2, 1) := by decide +kernel
theorem dX5_sendBatch_8 : decode cX5_sendBatch 8 = .ok (.getfield 197, 3) := by decide +kernel
theorem dX5_sendBatch_11 : decode cX5_sendBatch 11 = .ok (.ifCond .eq 22, 3) := by decide +kernel
theorem dX5_sendBatch_14 : decode cX5_sendBatch 14 = .ok (.aload_n 0, 1) := by decide +kernel
theorem dX5_sendBatch_15 : decode cX5_sendBatch 15 = .ok (.getfield 51, 3) := by decide +kernel
theorem dX5_sendBatch_18 : decode cX5_sendBatch 18 = .ok (.aload_n 2, 1) := by decide +kernel
theorem dX5_sendBatch_19 : decode cX5_sendBatch 19 = .ok (.getfield 200, 3) := by decide +kernel
theorem dX5_sendBatch_22 : decode cX5_sendBatch 22 = .ok (.isub, 1) := by decide +kernel
theorem dX5_sendBatch_23 : decode cX5_sendBatch 23 = .ok (.aload_n 0, 1) := by decide +kernel
theorem dX5_sendBatch_24 : decode cX5_sendBatch 24 = .ok (.getfield 18, 3) := by decide +kernel
theorem dX5_sendBatch_27 : decode cX5_sendBatch 27 = .ok (.iconst 3, 1) := by decide +kernel
theorem dX5_sendBatch_28 : decode cX5_sendBatch 28 = .ok (.iaload, 1) := by decide +kernel
theorem dX5_sendBatch_29 : decode cX5_sendBatch 29 = .ok (.if_icmp .ge 4, 3) := by decide +kernel
theorem dX5_sendBatch_32 : decode cX5_sendBatch 32 = .ok (.return_, 1) := by decide +kernel
theorem dX5_sendBatch_33 : decode cX5_sendBatch 33 = .ok (.aload_n 0, 1) := by decide +kernel
theorem dX5_sendBatch_34 : decode cX5_sendBatch 34 = .ok (.getfield 47, 3) := by decide +kernel
theorem dX5_sendBatch_37 : decode cX5_sendBatch 37 = .ok (.invokevirtual 166, 3) := by decide +kernel
theorem dX5_sendBatch_40 : decode cX5_sendBatch 40 = .ok (.astore_n 3, 1) := by decide +kernel
theorem dX5_sendBatch_41 : decode cX5_sendBatch 41 = .ok (.aload_n 3, 1) := by decide +kernel
theorem dX5_sendBatch_42 : decode cX5_sendBatch 42 = .ok (.iload_n 1, 1) := by decide +kernel
theorem dX5_sendBatch_43 : decode cX5_sendBatch 43 = .ok (.invokevirtual 203, 3) := by decide +kernel
theorem dX5_sendBatch_46 : decode cX5_sendBatch 46 = .ok (.iconst 0, 1) := by decide +kernel
theorem dX5_sendBatch_47 : decode cX5_sendBatch 47 = .ok (.istore 4, 2) := by decide +kernel
theorem dX5_sendBatch_49 : decode cX5_sendBatch 49 = .ok (.iload 4, 2) := by decide +kernel
theorem dX5_sendBatch_51 : decode cX5_sendBatch 51 = .ok (.aload_n 0, 1) := by decide +kernel
theorem dX5_sendBatch_52 : decode cX5_sendBatch 52 = .ok (.getfield 33, 3) := by decide +kernel
theorem dX5_sendBatch_55 : decode cX5_sendBatch 55 = .ok (.getfield 92, 3) := by decide +kernel
theorem dX5_sendBatch_58 : decode cX5_sendBatch 58 = .ok (.if_icmp .ge 76, 3) := by decide +kernel
theorem dX5_sendBatch_61 : decode cX5_sendBatch 61 = .ok (.aload_n 3, 1) := by decide +kernel
theorem dX5_sendBatch_62 : decode cX5_sendBatch 62 = .ok (.getfield 147, 3) := by decide +kernel
theorem dX5_sendBatch_65 : decode cX5_sendBatch 65 = .ok (.aload_n 0, 1) := by decide +kernel
theorem dX5_sendBatch_66 : decode cX5_sendBatch 66 = .ok (.getfield 18, 3) := by decide +kernel
theorem dX5_sendBatch_69 : decode cX5_sendBatch 69 = .ok (.iconst 2, 1) := by decide +kernel
theorem dX5_sendBatch_70 : decode cX5_sendBatch 70 = .ok (.iaload, 1) := by decide +kernel
theorem dX5_sendBatch_71 : decode cX5_sendBatch 71 = .ok (.if_icmp .ge 63, 3) := by decide +kernel
theorem dX5_sendBatch_74 : decode cX5_sendBatch 74 = .ok (.aload_n 0, 1) := by decide +kernel
theorem dX5_sendBatch_75 : decode cX5_sendBatch 75 = .ok (.getfield 33, 3) := by decide +kernel
theorem dX5_sendBatch_78 : decode cX5_sendBatch 78 = .ok (.getfield 206, 3) := by decide +kernel
theorem dX5_sendBatch_81 : decode cX5_sendBatch 81 = .ok (.iload 4, 2) := by decide +kernel
theorem dX5_sendBatch_83 : decode cX5_sendBatch 83 = .ok (.iaload, 1) := by decide +kernel
theorem dX5_sendBatch_84 : decode cX5_sendBatch 84 = .ok (.istore 5, 2) := by decide +kernel
theorem dX5_sendBatch_86 : decode cX5_sendBatch 86 = .ok (.aload_n 0, 1) := by decide +kernel
theorem dX5_sendBatch_87 : decode cX5_sendBatch 87 = .ok (.iload 5, 2) := by decide +kernel
theorem dX5_sendBatch_89 : decode cX5_sendBatch 89 = .ok (.aload_n 2, 1) := by decide +kernel
theorem dX5_sendBatch_90 : decode cX5_sendBatch 90 = .ok (.invokevirtual 209, 3) := by decide +kernel
theorem dX5_sendBatch_93 : decode cX5_sendBatch 93 = .ok (.ifCond .eq 35, 3) := by decide +kernel
theorem dX5_sendBatch_96 : decode cX5_sendBatch 96 = .ok (.aload_n 3, 1) := by decide +kernel
theorem dX5_sendBatch_97 : decode cX5_sendBatch 97 = .ok (.iload 5, 2) := by decide +kernel
theorem dX5_sendBatch_99 : decode cX5_sendBatch 99 = .ok (.aload_n 0, 1) := by decide +kernel
theorem dX5_sendBatch_100 : decode cX5_sendBatch 100 = .ok (.getfield 33, 3) := by decide +kernel
theorem dX5_sendBatch_103 : decode cX5_sendBatch 103 = .ok (.getfield 177, 3) := by decide +kernel
theorem dX5_sendBatch_106 : decode cX5_sendBatch 106 = .ok (.iload 5, 2) := by decide +kernel
theorem dX5_sendBatch_108 : decode cX5_sendBatch 108 = .ok (.iaload, 1) := by decide +kernel
theorem dX5_sendBatch_109 : decode cX5_sendBatch 109 = .ok (.invokevirtual 213, 3) := by decide +kernel
theorem dX5_sendBatch_112 : decode cX5_sendBatch 112 = .ok (.aload_n 0, 1) := by decide +kernel
theorem dX5_sendBatch_113 : decode cX5_sendBatch 113 = .ok (.getfield 33, 3) := by decide +kernel
theorem dX5_sendBatch_116 : decode cX5_sendBatch 116 = .ok (.getfield 215, 3) := by decide +kernel
theorem dX5_sendBatch_119 : decode cX5_sendBatch 119 = .ok (.iload 5, 2) := by decide +kernel
theorem dX5_sendBatch_121 : decode cX5_sendBatch 121 = .ok (.dup2, 1) := by decide +kernel
theorem dX5_sendBatch_122 : decode cX5_sendBatch 122 = .ok (.iaload, 1) := by decide +kernel
theorem dX5_sendBatch_123 : decode cX5_sendBatch 123 = .ok (.iconst 1, 1) := by decide +kernel
theorem dX5_sendBatch_124 : decode cX5_sendBatch 124 = .ok (.iload_n 1, 1) := by decide +kernel
theorem dX5_sendBatch_125 : decode cX5_sendBatch 125 = .ok (.ishl, 1) := by decide +kernel
theorem dX5_sendBatch_126 : decode cX5_sendBatch 126 = .ok (.ior, 1) := by decide +kernel
theorem dX5_sendBatch_127 : decode cX5_sendBatch 127 = .ok (.iastore, 1) := by decide +kernel
theorem dX5_sendBatch_128 : decode cX5_sendBatch 128 = .ok (.iinc 4 1, 3) := by decide +kernel
theorem dX5_sendBatch_131 : decode cX5_sendBatch 131 = .ok (.goto (-82), 3) := by decide +kernel
theorem dX5_sendBatch_134 : decode cX5_sendBatch 134 = .ok (.aload_n 3, 1) := by decide +kernel
theorem dX5_sendBatch_135 : decode cX5_sendBatch 135 = .ok (.getfield 147, 3) := by decide +kernel
theorem dX5_sendBatch_138 : decode cX5_sendBatch 138 = .ok (.ifCond .le 28, 3) := by decide +kernel
theorem dX5_sendBatch_141 : decode cX5_sendBatch 141 = .ok (.aload_n 2, 1) := by decide +kernel
theorem dX5_sendBatch_142 : decode cX5_sendBatch 142 = .ok (.iconst 1, 1) := by decide +kernel
theorem dX5_sendBatch_143 : decode cX5_sendBatch 143 = .ok (.putfield 197, 3) := by decide +kernel
theorem dX5_sendBatch_146 : decode cX5_sendBatch 146 = .ok (.aload_n 2, 1) := by decide +kernel
theorem dX5_sendBatch_147 : decode cX5_sendBatch 147 = .ok (.aload_n 0, 1) := by decide +kernel
theorem dX5_sendBatch_148 : decode cX5_sendBatch 148 = .ok (.getfield 51, 3) := by decide +kernel
theorem dX5_sendBatch_151 : decode cX5_sendBatch 151 = .ok (.putfield 200, 3) := by decide +kernel
theorem dX5_sendBatch_154 : decode cX5_sendBatch 154 = .ok (.aload_n 2, 1) := by decide +kernel
theorem dX5_sendBatch_155 : decode cX5_sendBatch 155 = .ok (.aload_n 3, 1) := by decide +kernel
theorem dX5_sendBatch_156 : decode cX5_sendBatch 156 = .ok (.getfield 144, 3) := by decide +kernel
theorem dX5_sendBatch_159 : decode cX5_sendBatch 159 = .ok (.putfield 218, 3) := by decide +kernel
theorem dX5_sendBatch_162 : decode cX5_sendBatch 162 = .ok (.aload_n 0, 1) := by decide +kernel
theorem dX5_sendBatch_163 : decode cX5_sendBatch 163 = .ok (.invokevirtual 174, 3) := by decide +kernel
theorem dX5_sendBatch_166 : decode cX5_sendBatch 166 = .ok (.return_, 1) := by decide +kernel
theorem dX5_post_0 : decode cX5_post 0 = .ok (.aload_n 0, 1) := by decide +kernel
theorem dX5_post_1 : decode cX5_post 1 = .ok (.getfield 47, 3) := by decide +kernel
theorem dX5_post_4 : decode cX5_post 4 = .ok (.aload_n 0, 1) := by decide +kernel
theorem dX5_post_5 : decode cX5_post 5 = .ok (.getfield 51, 3) := by decide +kernel
theorem dX5_post_8 : decode cX5_post 8 = .ok (.aload_n 0, 1) := by decide +kernel
theorem dX5_post_9 : decode cX5_post 9 = .ok (.getfield 18, 3) := by decide +kernel
theorem dX5_post_12 : decode cX5_post 12 = .ok (.iconst 1, 1) := by decide +kernel
theorem dX5_post_13 : decode cX5_post 13 = .ok (.iaload, 1) := by decide +kernel
theorem dX5_post_14 : decode cX5_post 14 = .ok (.iadd, 1) := by decide +kernel
theorem dX5_post_15 : decode cX5_post 15 = .ok (.aload_n 0, 1) := by decide +kernel
theorem dX5_post_16 : decode cX5_post 16 = .ok (.getfield 18, 3) := by decide +kernel
theorem dX5_post_19 : decode cX5_post 19 = .ok (.iconst 4, 1) := by decide +kernel
theorem dX5_post_20 : decode cX5_post 20 = .ok (.iaload, 1) := by decide +kernel
theorem dX5_post_21 : decode cX5_post 21 = .ok (.invokevirtual 221, 3) := by decide +kernel
theorem dX5_post_24 : decode cX5_post 24 = .ok (.return_, 1) := by decide +kernel
theorem dX5_isFor_0 : decode cX5_isFor 0 = .ok (.aload_n 2, 1) := by decide +kernel
theorem dX5_isFor_1 : decode cX5_isFor 1 = .ok (.aload_n 0, 1) := by decide +kernel
theorem dX5_isFor_2 : decode cX5_isFor 2 = .ok (.getfield 33, 3) := by decide +kernel
theorem dX5_isFor_5 : decode cX5_isFor 5 = .ok (.getfield 224, 3) := by decide +kernel
theorem dX5_isFor_8 : decode cX5_isFor 8 = .ok (.iload_n 1, 1) := by decide +kernel
theorem dX5_isFor_9 : decode cX5_isFor 9 = .ok (.iaload, 1) := by decide +kernel
theorem dX5_isFor_10 : decode cX5_isFor 10 = .ok (.invokevirtual 225, 3) := by decide +kernel
theorem dX5_isFor_13 : decode cX5_isFor 13 = .ok (.ifCond .eq 23, 3) := by decide +kernel
theorem dX5_isFor_16 : decode cX5_isFor 16 = .ok (.aload_n 0, 1) := by decide +kernel
theorem dX5_isFor_17 : decode cX5_isFor 17 = .ok (.getfield 33, 3) := by decide +kernel
theorem dX5_isFor_20 : decode cX5_isFor 20 = .ok (.getfield 177, 3) := by decide +kernel
theorem dX5_isFor_23 : decode cX5_isFor 23 = .ok (.iload_n 1, 1) := by decide +kernel
theorem dX5_isFor_24 : decode cX5_isFor 24 = .ok (.iaload, 1) := by decide +kernel
theorem dX5_isFor_25 : decode cX5_isFor 25 = .ok (.aload_n 2, 1) := by decide +kernel
theorem dX5_isFor_26 : decode cX5_isFor 26 = .ok (.getfield 228, 3) := by decide +kernel
theorem dX5_isFor_29 : decode cX5_isFor 29 = .ok (.if_icmp .le 7, 3) := by decide +kernel
theorem dX5_isFor_32 : decode cX5_isFor 32 = .ok (.iconst 1, 1) := by decide +kernel
theorem dX5_isFor_33 : decode cX5_isFor 33 = .ok (.goto 4, 3) := by decide +kernel
theorem dX5_isFor_36 : decode cX5_isFor 36 = .ok (.iconst 0, 1) := by decide +kernel
theorem dX5_isFor_37 : decode cX5_isFor 37 = .ok (.ireturn, 1) := by decide +kernel
theorem dX5_rowsFor_0 : decode cX5_rowsFor 0 = .ok (.iconst 0, 1) := by decide +kernel
theorem dX5_rowsFor_1 : decode cX5_rowsFor 1 = .ok (.istore_n 2, 1) := by decide +kernel
theorem dX5_rowsFor_2 : decode cX5_rowsFor 2 = .ok (.iconst 0, 1) := by decide +kernel
theorem dX5_rowsFor_3 : decode cX5_rowsFor 3 = .ok (.istore_n 3, 1) := by decide +kernel
theorem dX5_rowsFor_4 : decode cX5_rowsFor 4 = .ok (.iload_n 3, 1) := by decide +kernel
theorem dX5_rowsFor_5 : decode cX5_rowsFor 5 = .ok (.aload_n 0, 1) := by decide +kernel
theorem dX5_rowsFor_6 : decode cX5_rowsFor 6 = .ok (.getfield 33, 3) := by decide +kernel
theorem dX5_rowsFor_9 : decode cX5_rowsFor 9 = .ok (.getfield 92, 3) := by decide +kernel
theorem dX5_rowsFor_12 : decode cX5_rowsFor 12 = .ok (.if_icmp .ge 34, 3) := by decide +kernel
theorem dX5_rowsFor_15 : decode cX5_rowsFor 15 = .ok (.aload_n 0, 1) := by decide +kernel
theorem dX5_rowsFor_16 : decode cX5_rowsFor 16 = .ok (.aload_n 0, 1) := by decide +kernel
theorem dX5_rowsFor_17 : decode cX5_rowsFor 17 = .ok (.getfield 33, 3) := by decide +kernel
theorem dX5_rowsFor_20 : decode cX5_rowsFor 20 = .ok (.getfield 206, 3) := by decide +kernel
theorem dX5_rowsFor_23 : decode cX5_rowsFor 23 = .ok (.iload_n 3, 1) := by decide +kernel
theorem dX5_rowsFor_24 : decode cX5_rowsFor 24 = .ok (.iaload, 1) := by decide +kernel
theorem dX5_rowsFor_25 : decode cX5_rowsFor 25 = .ok (.aload_n 0, 1) := by decide +kernel
theorem dX5_rowsFor_26 : decode cX5_rowsFor 26 = .ok (.getfield 39, 3) := by decide +kernel
theorem dX5_rowsFor_29 : decode cX5_rowsFor 29 = .ok (.iload_n 1, 1) := by decide +kernel
theorem dX5_rowsFor_30 : decode cX5_rowsFor 30 = .ok (.aaload, 1) := by decide +kernel
theorem dX5_rowsFor_31 : decode cX5_rowsFor 31 = .ok (.invokevirtual 209, 3) := by decide +kernel
theorem dX5_rowsFor_34 : decode cX5_rowsFor 34 = .ok (.ifCond .eq 6, 3) := by decide +kernel
theorem dX5_rowsFor_37 : decode cX5_rowsFor 37 = .ok (.iinc 2 1, 3) := by decide +kernel
theorem dX5_rowsFor_40 : decode cX5_rowsFor 40 = .ok (.iinc 3 1, 3) := by decide +kernel
theorem dX5_rowsFor_43 : decode cX5_rowsFor 43 = .ok (.goto (-39), 3) := by decide +kernel
theorem dX5_rowsFor_46 : decode cX5_rowsFor 46 = .ok (.iload_n 2, 1) := by decide +kernel
theorem dX5_rowsFor_47 : decode cX5_rowsFor 47 = .ok (.ireturn, 1) := by decide +kernel
theorem dX5_answeredBy_0 : decode cX5_answeredBy 0 = .ok (.iconst 0, 1) := by decide +kernel
theorem dX5_answeredBy_1 : decode cX5_answeredBy 1 = .ok (.istore_n 2, 1) := by decide +kernel
theorem dX5_answeredBy_2 : decode cX5_answeredBy 2 = .ok (.iconst 0, 1) := by decide +kernel
theorem dX5_answeredBy_3 : decode cX5_answeredBy 3 = .ok (.istore_n 3, 1) := by decide +kernel
theorem dX5_answeredBy_4 : decode cX5_answeredBy 4 = .ok (.iload_n 3, 1) := by decide +kernel
theorem dX5_answeredBy_5 : decode cX5_answeredBy 5 = .ok (.iconst 3, 1) := by decide +kernel
theorem dX5_answeredBy_6 : decode cX5_answeredBy 6 = .ok (.if_icmp .ge 29, 3) := by decide +kernel
theorem dX5_answeredBy_9 : decode cX5_answeredBy 9 = .ok (.aload_n 0, 1) := by decide +kernel
theorem dX5_answeredBy_10 : decode cX5_answeredBy 10 = .ok (.iload_n 1, 1) := by decide +kernel
theorem dX5_answeredBy_11 : decode cX5_answeredBy 11 = .ok (.aload_n 0, 1) := by decide +kernel
theorem dX5_answeredBy_12 : decode cX5_answeredBy 12 = .ok (.getfield 39, 3) := by decide +kernel
theorem dX5_answeredBy_15 : decode cX5_answeredBy 15 = .ok (.iload_n 3, 1) := by decide +kernel
theorem dX5_answeredBy_16 : decode cX5_answeredBy 16 = .ok (.aaload, 1) := by decide +kernel
theorem dX5_answeredBy_17 : decode cX5_answeredBy 17 = .ok (.invokevirtual 209, 3) := by decide +kernel
theorem dX5_answeredBy_20 : decode cX5_answeredBy 20 = .ok (.ifCond .ne 9, 3) := by decide +kernel
theorem dX5_answeredBy_23 : decode cX5_answeredBy 23 = .ok (.iload_n 2, 1) := by decide +kernel
theorem dX5_answeredBy_24 : decode cX5_answeredBy 24 = .ok (.iconst 1, 1) := by decide +kernel
theorem dX5_answeredBy_25 : decode cX5_answeredBy 25 = .ok (.iload_n 3, 1) := by decide +kernel
theorem dX5_answeredBy_26 : decode cX5_answeredBy 26 = .ok (.ishl, 1) := by decide +kernel
theorem dX5_answeredBy_27 : decode cX5_answeredBy 27 = .ok (.ior, 1) := by decide +kernel
theorem dX5_answeredBy_28 : decode cX5_answeredBy 28 = .ok (.istore_n 2, 1) := by decide +kernel
theorem dX5_answeredBy_29 : decode cX5_answeredBy 29 = .ok (.iinc 3 1, 3) := by decide +kernel
theorem dX5_answeredBy_32 : decode cX5_answeredBy 32 = .ok (.goto (-28), 3) := by decide +kernel
theorem dX5_answeredBy_35 : decode cX5_answeredBy 35 = .ok (.iload_n 2, 1) := by decide +kernel
theorem dX5_answeredBy_36 : decode cX5_answeredBy 36 = .ok (.ireturn, 1) := by decide +kernel
theorem dX5_sweepRows_0 : decode cX5_sweepRows 0 = .ok (.iconst 0, 1) := by decide +kernel
theorem dX5_sweepRows_1 : decode cX5_sweepRows 1 = .ok (.istore_n 1, 1) := by decide +kernel
theorem dX5_sweepRows_2 : decode cX5_sweepRows 2 = .ok (.aload_n 0, 1) := by decide +kernel
theorem dX5_sweepRows_3 : decode cX5_sweepRows 3 = .ok (.getfield 33, 3) := by decide +kernel
theorem dX5_sweepRows_6 : decode cX5_sweepRows 6 = .ok (.getfield 92, 3) := by decide +kernel
theorem dX5_sweepRows_9 : decode cX5_sweepRows 9 = .ok (.istore_n 2, 1) := by decide +kernel
theorem dX5_sweepRows_10 : decode cX5_sweepRows 10 = .ok (.iconst 0, 1) := by decide +kernel
theorem dX5_sweepRows_11 : decode cX5_sweepRows 11 = .ok (.istore_n 3, 1) := by decide +kernel
theorem dX5_sweepRows_12 : decode cX5_sweepRows 12 = .ok (.iload_n 3, 1) := by decide +kernel
theorem dX5_sweepRows_13 : decode cX5_sweepRows 13 = .ok (.iload_n 2, 1) := by decide +kernel
theorem dX5_sweepRows_14 : decode cX5_sweepRows 14 = .ok (.if_icmp .ge 54, 3) := by decide +kernel
theorem dX5_sweepRows_17 : decode cX5_sweepRows 17 = .ok (.aload_n 0, 1) := by decide +kernel
theorem dX5_sweepRows_18 : decode cX5_sweepRows 18 = .ok (.getfield 33, 3) := by decide +kernel
theorem dX5_sweepRows_21 : decode cX5_sweepRows 21 = .ok (.getfield 206, 3) := by decide +kernel
theorem dX5_sweepRows_24 : decode cX5_sweepRows 24 = .ok (.iload_n 3, 1) := by decide +kernel
theorem dX5_sweepRows_25 : decode cX5_sweepRows 25 = .ok (.iaload, 1) := by decide +kernel
theorem dX5_sweepRows_26 : decode cX5_sweepRows 26 = .ok (.istore 4, 2) := by decide +kernel
theorem dX5_sweepRows_28 : decode cX5_sweepRows 28 = .ok (.aload_n 0, 1) := by decide +kernel
theorem dX5_sweepRows_29 : decode cX5_sweepRows 29 = .ok (.iload 4, 2) := by decide +kernel
theorem dX5_sweepRows_31 : decode cX5_sweepRows 31 = .ok (.invokevirtual 231, 3) := by decide +kernel
theorem dX5_sweepRows_34 : decode cX5_sweepRows 34 = .ok (.bipush 7, 2) := by decide +kernel
theorem dX5_sweepRows_36 : decode cX5_sweepRows 36 = .ok (.if_icmp .ne 12, 3) := by decide +kernel
theorem dX5_sweepRows_39 : decode cX5_sweepRows 39 = .ok (.aload_n 0, 1) := by decide +kernel
theorem dX5_sweepRows_40 : decode cX5_sweepRows 40 = .ok (.iload 4, 2) := by decide +kernel
theorem dX5_sweepRows_42 : decode cX5_sweepRows 42 = .ok (.invokevirtual 234, 3) := by decide +kernel
theorem dX5_sweepRows_45 : decode cX5_sweepRows 45 = .ok (.goto 17, 3) := by decide +kernel
theorem dX5_sweepRows_48 : decode cX5_sweepRows 48 = .ok (.aload_n 0, 1) := by decide +kernel
theorem dX5_sweepRows_49 : decode cX5_sweepRows 49 = .ok (.getfield 33, 3) := by decide +kernel
theorem dX5_sweepRows_52 : decode cX5_sweepRows 52 = .ok (.getfield 206, 3) := by decide +kernel
theorem dX5_sweepRows_55 : decode cX5_sweepRows 55 = .ok (.iload_n 1, 1) := by decide +kernel
theorem dX5_sweepRows_56 : decode cX5_sweepRows 56 = .ok (.iload 4, 2) := by decide +kernel
theorem dX5_sweepRows_58 : decode cX5_sweepRows 58 = .ok (.iastore, 1) := by decide +kernel
theorem dX5_sweepRows_59 : decode cX5_sweepRows 59 = .ok (.iinc 1 1, 3) := by decide +kernel
theorem dX5_sweepRows_62 : decode cX5_sweepRows 62 = .ok (.iinc 3 1, 3) := by decide +kernel
theorem dX5_sweepRows_65 : decode cX5_sweepRows 65 = .ok (.goto (-53), 3) := by decide +kernel
theorem dX5_sweepRows_68 : decode cX5_sweepRows 68 = .ok (.aload_n 0, 1) := by decide +kernel
theorem dX5_sweepRows_69 : decode cX5_sweepRows 69 = .ok (.getfield 33, 3) := by decide +kernel
theorem dX5_sweepRows_72 : decode cX5_sweepRows 72 = .ok (.iload_n 1, 1) := by decide +kernel
theorem dX5_sweepRows_73 : decode cX5_sweepRows 73 = .ok (.putfield 92, 3) := by decide +kernel
theorem dX5_sweepRows_76 : decode cX5_sweepRows 76 = .ok (.aload_n 0, 1) := by decide +kernel
theorem dX5_sweepRows_77 : decode cX5_sweepRows 77 = .ok (.getfield 33, 3) := by decide +kernel
theorem dX5_sweepRows_80 : decode cX5_sweepRows 80 = .ok (.dup, 1) := by decide +kernel
theorem dX5_sweepRows_81 : decode cX5_sweepRows 81 = .ok (.getfield 237, 3) := by decide +kernel
theorem dX5_sweepRows_84 : decode cX5_sweepRows 84 = .ok (.iload_n 2, 1) := by decide +kernel
theorem dX5_sweepRows_85 : decode cX5_sweepRows 85 = .ok (.iload_n 1, 1) := by decide +kernel
theorem dX5_sweepRows_86 : decode cX5_sweepRows 86 = .ok (.isub, 1) := by decide +kernel
theorem dX5_sweepRows_87 : decode cX5_sweepRows 87 = .ok (.iadd, 1) := by decide +kernel
theorem dX5_sweepRows_88 : decode cX5_sweepRows 88 = .ok (.putfield 237, 3) := by decide +kernel
theorem dX5_sweepRows_91 : decode cX5_sweepRows 91 = .ok (.iload_n 2, 1) := by decide +kernel
theorem dX5_sweepRows_92 : decode cX5_sweepRows 92 = .ok (.iload_n 1, 1) := by decide +kernel
theorem dX5_sweepRows_93 : decode cX5_sweepRows 93 = .ok (.isub, 1) := by decide +kernel
theorem dX5_sweepRows_94 : decode cX5_sweepRows 94 = .ok (.ireturn, 1) := by decide +kernel
theorem dX5_loseUnseen_0 : decode cX5_loseUnseen 0 = .ok (.iconst 0, 1) := by decide +kernel
theorem dX5_loseUnseen_1 : decode cX5_loseUnseen 1 = .ok (.istore_n 2, 1) := by decide +kernel
theorem dX5_loseUnseen_2 : decode cX5_loseUnseen 2 = .ok (.iload_n 2, 1) := by decide +kernel
theorem dX5_loseUnseen_3 : decode cX5_loseUnseen 3 = .ok (.iconst 3, 1) := by decide +kernel
theorem dX5_loseUnseen_4 : decode cX5_loseUnseen 4 = .ok (.if_icmp .ge 72, 3) := by decide +kernel
theorem dX5_loseUnseen_7 : decode cX5_loseUnseen 7 = .ok (.aload_n 0, 1) := by decide +kernel
theorem dX5_loseUnseen_8 : decode cX5_loseUnseen 8 = .ok (.getfield 33, 3) := by decide +kernel
theorem dX5_loseUnseen_11 : decode cX5_loseUnseen 11 = .ok (.getfield 187, 3) := by decide +kernel
theorem dX5_loseUnseen_14 : decode cX5_loseUnseen 14 = .ok (.iload_n 1, 1) := by decide +kernel
theorem dX5_loseUnseen_15 : decode cX5_loseUnseen 15 = .ok (.iaload, 1) := by decide +kernel
theorem dX5_loseUnseen_16 : decode cX5_loseUnseen 16 = .ok (.iload_n 2, 1) := by decide +kernel
theorem dX5_loseUnseen_17 : decode cX5_loseUnseen 17 = .ok (.ishr, 1) := by decide +kernel
theorem dX5_loseUnseen_18 : decode cX5_loseUnseen 18 = .ok (.iconst 1, 1) := by decide +kernel
theorem dX5_loseUnseen_19 : decode cX5_loseUnseen 19 = .ok (.iand, 1) := by decide +kernel
theorem dX5_loseUnseen_20 : decode cX5_loseUnseen 20 = .ok (.iconst 1, 1) := by decide +kernel
theorem dX5_loseUnseen_21 : decode cX5_loseUnseen 21 = .ok (.if_icmp .ne 7, 3) := by decide +kernel
theorem dX5_loseUnseen_24 : decode cX5_loseUnseen 24 = .ok (.iconst 1, 1) := by decide +kernel
theorem dX5_loseUnseen_25 : decode cX5_loseUnseen 25 = .ok (.goto 4, 3) := by decide +kernel
theorem dX5_loseUnseen_28 : decode cX5_loseUnseen 28 = .ok (.iconst 0, 1) := by decide +kernel
theorem dX5_loseUnseen_29 : decode cX5_loseUnseen 29 = .ok (.istore_n 3, 1) := by decide +kernel
theorem dX5_loseUnseen_30 : decode cX5_loseUnseen 30 = .ok (.aload_n 0, 1) := by decide +kernel
theorem dX5_loseUnseen_31 : decode cX5_loseUnseen 31 = .ok (.getfield 39, 3) := by decide +kernel
theorem dX5_loseUnseen_34 : decode cX5_loseUnseen 34 = .ok (.iload_n 2, 1) := by decide +kernel
theorem dX5_loseUnseen_35 : decode cX5_loseUnseen 35 = .ok (.aaload, 1) := by decide +kernel
theorem dX5_loseUnseen_36 : decode cX5_loseUnseen 36 = .ok (.aload_n 0, 1) := by decide +kernel
theorem dX5_loseUnseen_37 : decode cX5_loseUnseen 37 = .ok (.getfield 33, 3) := by decide +kernel
theorem dX5_loseUnseen_40 : decode cX5_loseUnseen 40 = .ok (.getfield 224, 3) := by decide +kernel
theorem dX5_loseUnseen_43 : decode cX5_loseUnseen 43 = .ok (.iload_n 1, 1) := by decide +kernel
theorem dX5_loseUnseen_44 : decode cX5_loseUnseen 44 = .ok (.iaload, 1) := by decide +kernel
theorem dX5_loseUnseen_45 : decode cX5_loseUnseen 45 = .ok (.invokevirtual 225, 3) := by decide +kernel
theorem dX5_loseUnseen_48 : decode cX5_loseUnseen 48 = .ok (.ifCond .eq 22, 3) := by decide +kernel
theorem dX5_loseUnseen_51 : decode cX5_loseUnseen 51 = .ok (.iload_n 3, 1) := by decide +kernel
theorem dX5_loseUnseen_52 : decode cX5_loseUnseen 52 = .ok (.ifCond .ne 18, 3) := by decide +kernel
theorem dX5_loseUnseen_55 : decode cX5_loseUnseen 55 = .ok (.aload_n 0, 1) := by decide +kernel
theorem dX5_loseUnseen_56 : decode cX5_loseUnseen 56 = .ok (.getfield 39, 3) := by decide +kernel
theorem dX5_loseUnseen_59 : decode cX5_loseUnseen 59 = .ok (.iload_n 2, 1) := by decide +kernel
theorem dX5_loseUnseen_60 : decode cX5_loseUnseen 60 = .ok (.aaload, 1) := by decide +kernel
theorem dX5_loseUnseen_61 : decode cX5_loseUnseen 61 = .ok (.dup, 1) := by decide +kernel
theorem dX5_loseUnseen_62 : decode cX5_loseUnseen 62 = .ok (.getfield 240, 3) := by decide +kernel
theorem dX5_loseUnseen_65 : decode cX5_loseUnseen 65 = .ok (.iconst 1, 1) := by decide +kernel
theorem dX5_loseUnseen_66 : decode cX5_loseUnseen 66 = .ok (.iadd, 1) := by decide +kernel
theorem dX5_loseUnseen_67 : decode cX5_loseUnseen 67 = .ok (.putfield 240, 3) := by decide +kernel
theorem dX5_loseUnseen_70 : decode cX5_loseUnseen 70 = .ok (.iinc 2 1, 3) := by decide +kernel
theorem dX5_loseUnseen_73 : decode cX5_loseUnseen 73 = .ok (.goto (-71), 3) := by decide +kernel
theorem dX5_loseUnseen_76 : decode cX5_loseUnseen 76 = .ok (.return_, 1) := by decide +kernel
theorem dX5_isDrained_0 : decode cX5_isDrained 0 = .ok (.aload_n 0, 1) := by decide +kernel
theorem dX5_isDrained_1 : decode cX5_isDrained 1 = .ok (.getfield 47, 3) := by decide +kernel
theorem dX5_isDrained_4 : decode cX5_isDrained 4 = .ok (.getfield 243, 3) := by decide +kernel
theorem dX5_isDrained_7 : decode cX5_isDrained 7 = .ok (.ifCond .le 5, 3) := by decide +kernel
theorem dX5_isDrained_10 : decode cX5_isDrained 10 = .ok (.iconst 0, 1) := by decide +kernel
theorem dX5_isDrained_11 : decode cX5_isDrained 11 = .ok (.ireturn, 1) := by decide +kernel
theorem dX5_isDrained_12 : decode cX5_isDrained 12 = .ok (.iconst 0, 1) := by decide +kernel
theorem dX5_isDrained_13 : decode cX5_isDrained 13 = .ok (.istore_n 1, 1) := by decide +kernel
theorem dX5_isDrained_14 : decode cX5_isDrained 14 = .ok (.iload_n 1, 1) := by decide +kernel
theorem dX5_isDrained_15 : decode cX5_isDrained 15 = .ok (.aload_n 0, 1) := by decide +kernel
theorem dX5_isDrained_16 : decode cX5_isDrained 16 = .ok (.getfield 33, 3) := by decide +kernel
theorem dX5_isDrained_19 : decode cX5_isDrained 19 = .ok (.getfield 92, 3) := by decide +kernel
theorem dX5_isDrained_22 : decode cX5_isDrained 22 = .ok (.if_icmp .ge 29, 3) := by decide +kernel
theorem dX5_isDrained_25 : decode cX5_isDrained 25 = .ok (.aload_n 0, 1) := by decide +kernel
theorem dX5_isDrained_26 : decode cX5_isDrained 26 = .ok (.aload_n 0, 1) := by decide +kernel
theorem dX5_isDrained_27 : decode cX5_isDrained 27 = .ok (.getfield 33, 3) := by decide +kernel
theorem dX5_isDrained_30 : decode cX5_isDrained 30 = .ok (.getfield 206, 3) := by decide +kernel
theorem dX5_isDrained_33 : decode cX5_isDrained 33 = .ok (.iload_n 1, 1) := by decide +kernel
theorem dX5_isDrained_34 : decode cX5_isDrained 34 = .ok (.iaload, 1) := by decide +kernel
theorem dX5_isDrained_35 : decode cX5_isDrained 35 = .ok (.invokevirtual 231, 3) := by decide +kernel
theorem dX5_isDrained_38 : decode cX5_isDrained 38 = .ok (.bipush 7, 2) := by decide +kernel
theorem dX5_isDrained_40 : decode cX5_isDrained 40 = .ok (.if_icmp .eq 5, 3) := by decide +kernel
theorem dX5_isDrained_43 : decode cX5_isDrained 43 = .ok (.iconst 0, 1) := by decide +kernel
theorem dX5_isDrained_44 : decode cX5_isDrained 44 = .ok (.ireturn, 1) := by decide +kernel
theorem dX5_isDrained_45 : decode cX5_isDrained 45 = .ok (.iinc 1 1, 3) := by decide +kernel
theorem dX5_isDrained_48 : decode cX5_isDrained 48 = .ok (.goto (-34), 3) := by decide +kernel
theorem dX5_isDrained_51 : decode cX5_isDrained 51 = .ok (.iconst 1, 1) := by decide +kernel
theorem dX5_isDrained_52 : decode cX5_isDrained 52 = .ok (.ireturn, 1) := by decide +kernel
theorem dX5_rowNumber_0 : decode cX5_rowNumber 0 = .ok (.iload_n 2, 1) := by decide +kernel
theorem dX5_rowNumber_1 : decode cX5_rowNumber 1 = .ok (.tableswitch 101 0 6 #[43, 53, 63, 65, 75, 85, 95], 43) := by decide +kernel
theorem dX5_rowNumber_44 : decode cX5_rowNumber 44 = .ok (.aload_n 0, 1) := by decide +kernel
theorem dX5_rowNumber_45 : decode cX5_rowNumber 45 = .ok (.getfield 33, 3) := by decide +kernel
theorem dX5_rowNumber_48 : decode cX5_rowNumber 48 = .ok (.getfield 177, 3) := by decide +kernel
theorem dX5_rowNumber_51 : decode cX5_rowNumber 51 = .ok (.iload_n 1, 1) := by decide +kernel
theorem dX5_rowNumber_52 : decode cX5_rowNumber 52 = .ok (.iaload, 1) := by decide +kernel
theorem dX5_rowNumber_53 : decode cX5_rowNumber 53 = .ok (.ireturn, 1) := by decide +kernel
theorem dX5_rowNumber_54 : decode cX5_rowNumber 54 = .ok (.aload_n 0, 1) := by decide +kernel
theorem dX5_rowNumber_55 : decode cX5_rowNumber 55 = .ok (.getfield 33, 3) := by decide +kernel
theorem dX5_rowNumber_58 : decode cX5_rowNumber 58 = .ok (.getfield 246, 3) := by decide +kernel
theorem dX5_rowNumber_61 : decode cX5_rowNumber 61 = .ok (.iload_n 1, 1) := by decide +kernel
theorem dX5_rowNumber_62 : decode cX5_rowNumber 62 = .ok (.iaload, 1) := by decide +kernel
theorem dX5_rowNumber_63 : decode cX5_rowNumber 63 = .ok (.ireturn, 1) := by decide +kernel
theorem dX5_rowNumber_64 : decode cX5_rowNumber 64 = .ok (.iload_n 1, 1) := by decide +kernel
theorem dX5_rowNumber_65 : decode cX5_rowNumber 65 = .ok (.ireturn, 1) := by decide +kernel
theorem dX5_rowNumber_66 : decode cX5_rowNumber 66 = .ok (.aload_n 0, 1) := by decide +kernel
theorem dX5_rowNumber_67 : decode cX5_rowNumber 67 = .ok (.getfield 33, 3) := by decide +kernel
theorem dX5_rowNumber_70 : decode cX5_rowNumber 70 = .ok (.getfield 224, 3) := by decide +kernel
theorem dX5_rowNumber_73 : decode cX5_rowNumber 73 = .ok (.iload_n 1, 1) := by decide +kernel
theorem dX5_rowNumber_74 : decode cX5_rowNumber 74 = .ok (.iaload, 1) := by decide +kernel
theorem dX5_rowNumber_75 : decode cX5_rowNumber 75 = .ok (.ireturn, 1) := by decide +kernel
theorem dX5_rowNumber_76 : decode cX5_rowNumber 76 = .ok (.aload_n 0, 1) := by decide +kernel
theorem dX5_rowNumber_77 : decode cX5_rowNumber 77 = .ok (.getfield 33, 3) := by decide +kernel
theorem dX5_rowNumber_80 : decode cX5_rowNumber 80 = .ok (.getfield 193, 3) := by decide +kernel
theorem dX5_rowNumber_83 : decode cX5_rowNumber 83 = .ok (.iload_n 1, 1) := by decide +kernel
theorem dX5_rowNumber_84 : decode cX5_rowNumber 84 = .ok (.iaload, 1) := by decide +kernel
theorem dX5_rowNumber_85 : decode cX5_rowNumber 85 = .ok (.ireturn, 1) := by decide +kernel
theorem dX5_rowNumber_86 : decode cX5_rowNumber 86 = .ok (.aload_n 0, 1) := by decide +kernel
theorem dX5_rowNumber_87 : decode cX5_rowNumber 87 = .ok (.getfield 33, 3) := by decide +kernel
theorem dX5_rowNumber_90 : decode cX5_rowNumber 90 = .ok (.getfield 187, 3) := by decide +kernel
theorem dX5_rowNumber_93 : decode cX5_rowNumber 93 = .ok (.iload_n 1, 1) := by decide +kernel
theorem dX5_rowNumber_94 : decode cX5_rowNumber 94 = .ok (.iaload, 1) := by decide +kernel
theorem dX5_rowNumber_95 : decode cX5_rowNumber 95 = .ok (.ireturn, 1) := by decide +kernel
theorem dX5_rowNumber_96 : decode cX5_rowNumber 96 = .ok (.aload_n 0, 1) := by decide +kernel
theorem dX5_rowNumber_97 : decode cX5_rowNumber 97 = .ok (.iload_n 1, 1) := by decide +kernel
theorem dX5_rowNumber_98 : decode cX5_rowNumber 98 = .ok (.invokevirtual 231, 3) := by decide +kernel
theorem dX5_rowNumber_101 : decode cX5_rowNumber 101 = .ok (.ireturn, 1) := by decide +kernel
theorem dX5_rowNumber_102 : decode cX5_rowNumber 102 = .ok (.aload_n 0, 1) := by decide +kernel
theorem dX5_rowNumber_103 : decode cX5_rowNumber 103 = .ok (.iload_n 1, 1) := by decide +kernel
theorem dX5_rowNumber_104 : decode cX5_rowNumber 104 = .ok (.invokevirtual 247, 3) := by decide +kernel
theorem dX5_rowNumber_107 : decode cX5_rowNumber 107 = .ok (.ireturn, 1) := by decide +kernel
theorem dX5_whyItStays_0 : decode cX5_whyItStays 0 = .ok (.iconst 0, 1) := by decide +kernel
theorem dX5_whyItStays_1 : decode cX5_whyItStays 1 = .ok (.istore_n 2, 1) := by decide +kernel
theorem dX5_whyItStays_2 : decode cX5_whyItStays 2 = .ok (.iload_n 2, 1) := by decide +kernel
theorem dX5_whyItStays_3 : decode cX5_whyItStays 3 = .ok (.iconst 3, 1) := by decide +kernel
theorem dX5_whyItStays_4 : decode cX5_whyItStays 4 = .ok (.if_icmp .ge 64, 3) := by decide +kernel
theorem dX5_whyItStays_7 : decode cX5_whyItStays 7 = .ok (.aload_n 0, 1) := by decide +kernel
theorem dX5_whyItStays_8 : decode cX5_whyItStays 8 = .ok (.iload_n 1, 1) := by decide +kernel
theorem dX5_whyItStays_9 : decode cX5_whyItStays 9 = .ok (.aload_n 0, 1) := by decide +kernel
theorem dX5_whyItStays_10 : decode cX5_whyItStays 10 = .ok (.getfield 39, 3) := by decide +kernel
theorem dX5_whyItStays_13 : decode cX5_whyItStays 13 = .ok (.iload_n 2, 1) := by decide +kernel
theorem dX5_whyItStays_14 : decode cX5_whyItStays 14 = .ok (.aaload, 1) := by decide +kernel
theorem dX5_whyItStays_15 : decode cX5_whyItStays 15 = .ok (.invokevirtual 209, 3) := by decide +kernel
theorem dX5_whyItStays_18 : decode cX5_whyItStays 18 = .ok (.ifCond .eq 44, 3) := by decide +kernel
theorem dX5_whyItStays_21 : decode cX5_whyItStays 21 = .ok (.aload_n 0, 1) := by decide +kernel
theorem dX5_whyItStays_22 : decode cX5_whyItStays 22 = .ok (.getfield 33, 3) := by decide +kernel
theorem dX5_whyItStays_25 : decode cX5_whyItStays 25 = .ok (.getfield 215, 3) := by decide +kernel
theorem dX5_whyItStays_28 : decode cX5_whyItStays 28 = .ok (.iload_n 1, 1) := by decide +kernel
theorem dX5_whyItStays_29 : decode cX5_whyItStays 29 = .ok (.iaload, 1) := by decide +kernel
theorem dX5_whyItStays_30 : decode cX5_whyItStays 30 = .ok (.iload_n 2, 1) := by decide +kernel
theorem dX5_whyItStays_31 : decode cX5_whyItStays 31 = .ok (.ishr, 1) := by decide +kernel
theorem dX5_whyItStays_32 : decode cX5_whyItStays 32 = .ok (.iconst 1, 1) := by decide +kernel
theorem dX5_whyItStays_33 : decode cX5_whyItStays 33 = .ok (.iand, 1) := by decide +kernel
theorem dX5_whyItStays_34 : decode cX5_whyItStays 34 = .ok (.ifCond .ne 5, 3) := by decide +kernel
theorem dX5_whyItStays_37 : decode cX5_whyItStays 37 = .ok (.iconst 1, 1) := by decide +kernel
theorem dX5_whyItStays_38 : decode cX5_whyItStays 38 = .ok (.ireturn, 1) := by decide +kernel
theorem dX5_whyItStays_39 : decode cX5_whyItStays 39 = .ok (.aload_n 0, 1) := by decide +kernel
theorem dX5_whyItStays_40 : decode cX5_whyItStays 40 = .ok (.getfield 33, 3) := by decide +kernel
theorem dX5_whyItStays_43 : decode cX5_whyItStays 43 = .ok (.getfield 187, 3) := by decide +kernel
theorem dX5_whyItStays_46 : decode cX5_whyItStays 46 = .ok (.iload_n 1, 1) := by decide +kernel
theorem dX5_whyItStays_47 : decode cX5_whyItStays 47 = .ok (.iaload, 1) := by decide +kernel
theorem dX5_whyItStays_48 : decode cX5_whyItStays 48 = .ok (.iload_n 2, 1) := by decide +kernel
theorem dX5_whyItStays_49 : decode cX5_whyItStays 49 = .ok (.ishr, 1) := by decide +kernel
theorem dX5_whyItStays_50 : decode cX5_whyItStays 50 = .ok (.iconst 1, 1) := by decide +kernel
theorem dX5_whyItStays_51 : decode cX5_whyItStays 51 = .ok (.iand, 1) := by decide +kernel
theorem dX5_whyItStays_52 : decode cX5_whyItStays 52 = .ok (.iconst 1, 1) := by decide +kernel
theorem dX5_whyItStays_53 : decode cX5_whyItStays 53 = .ok (.if_icmp .ne 7, 3) := by decide +kernel
theorem dX5_whyItStays_56 : decode cX5_whyItStays 56 = .ok (.iconst 2, 1) := by decide +kernel
theorem dX5_whyItStays_57 : decode cX5_whyItStays 57 = .ok (.goto 4, 3) := by decide +kernel
theorem dX5_whyItStays_60 : decode cX5_whyItStays 60 = .ok (.iconst 3, 1) := by decide +kernel
theorem dX5_whyItStays_61 : decode cX5_whyItStays 61 = .ok (.ireturn, 1) := by decide +kernel
theorem dX5_whyItStays_62 : decode cX5_whyItStays 62 = .ok (.iinc 2 1, 3) := by decide +kernel
theorem dX5_whyItStays_65 : decode cX5_whyItStays 65 = .ok (.goto (-63), 3) := by decide +kernel
theorem dX5_whyItStays_68 : decode cX5_whyItStays 68 = .ok (.iconst 0, 1) := by decide +kernel
theorem dX5_whyItStays_69 : decode cX5_whyItStays 69 = .ok (.ireturn, 1) := by decide +kernel
theorem dX5_receiverNumber_0 : decode cX5_receiverNumber 0 = .ok (.iload_n 2, 1) := by decide +kernel
theorem dX5_receiverNumber_1 : decode cX5_receiverNumber 1 = .ok (.tableswitch 57 10 13 #[31, 57, 37, 48], 31) := by decide +kernel
theorem dX5_receiverNumber_32 : decode cX5_receiverNumber 32 = .ok (.aload_n 0, 1) := by decide +kernel
theorem dX5_receiverNumber_33 : decode cX5_receiverNumber 33 = .ok (.iload_n 1, 1) := by decide +kernel
theorem dX5_receiverNumber_34 : decode cX5_receiverNumber 34 = .ok (.invokevirtual 250, 3) := by decide +kernel
theorem dX5_receiverNumber_37 : decode cX5_receiverNumber 37 = .ok (.ireturn, 1) := by decide +kernel
theorem dX5_receiverNumber_38 : decode cX5_receiverNumber 38 = .ok (.aload_n 0, 1) := by decide +kernel
theorem dX5_receiverNumber_39 : decode cX5_receiverNumber 39 = .ok (.aload_n 0, 1) := by decide +kernel
theorem dX5_receiverNumber_40 : decode cX5_receiverNumber 40 = .ok (.getfield 39, 3) := by decide +kernel
theorem dX5_receiverNumber_43 : decode cX5_receiverNumber 43 = .ok (.iload_n 1, 1) := by decide +kernel
theorem dX5_receiverNumber_44 : decode cX5_receiverNumber 44 = .ok (.aaload, 1) := by decide +kernel
theorem dX5_receiverNumber_45 : decode cX5_receiverNumber 45 = .ok (.invokevirtual 253, 3) := by decide +kernel
theorem dX5_receiverNumber_48 : decode cX5_receiverNumber 48 = .ok (.ireturn, 1) := by decide +kernel
theorem dX5_receiverNumber_49 : decode cX5_receiverNumber 49 = .ok (.aload_n 0, 1) := by decide +kernel
theorem dX5_receiverNumber_50 : decode cX5_receiverNumber 50 = .ok (.getfield 47, 3) := by decide +kernel
theorem dX5_receiverNumber_53 : decode cX5_receiverNumber 53 = .ok (.iload_n 1, 1) := by decide +kernel
theorem dX5_receiverNumber_54 : decode cX5_receiverNumber 54 = .ok (.invokevirtual 257, 3) := by decide +kernel
theorem dX5_receiverNumber_57 : decode cX5_receiverNumber 57 = .ok (.ireturn, 1) := by decide +kernel
theorem dX5_receiverNumber_58 : decode cX5_receiverNumber 58 = .ok (.aload_n 0, 1) := by decide +kernel
theorem dX5_receiverNumber_59 : decode cX5_receiverNumber 59 = .ok (.getfield 39, 3) := by decide +kernel
theorem dX5_receiverNumber_62 : decode cX5_receiverNumber 62 = .ok (.iload_n 1, 1) := by decide +kernel
theorem dX5_receiverNumber_63 : decode cX5_receiverNumber 63 = .ok (.aaload, 1) := by decide +kernel
theorem dX5_receiverNumber_64 : decode cX5_receiverNumber 64 = .ok (.iload_n 2, 1) := by decide +kernel
theorem dX5_receiverNumber_65 : decode cX5_receiverNumber 65 = .ok (.invokevirtual 260, 3) := by decide +kernel
theorem dX5_receiverNumber_68 : decode cX5_receiverNumber 68 = .ok (.ireturn, 1) := by decide +kernel
theorem dX5_sumDue_0 : decode cX5_sumDue 0 = .ok (.iconst 0, 1) := by decide +kernel
theorem dX5_sumDue_1 : decode cX5_sumDue 1 = .ok (.istore_n 2, 1) := by decide +kernel
theorem dX5_sumDue_2 : decode cX5_sumDue 2 = .ok (.iconst 0, 1) := by decide +kernel
theorem dX5_sumDue_3 : decode cX5_sumDue 3 = .ok (.istore_n 3, 1) := by decide +kernel
theorem dX5_sumDue_4 : decode cX5_sumDue 4 = .ok (.iload_n 3, 1) := by decide +kernel
theorem dX5_sumDue_5 : decode cX5_sumDue 5 = .ok (.aload_n 0, 1) := by decide +kernel
theorem dX5_sumDue_6 : decode cX5_sumDue 6 = .ok (.getfield 33, 3) := by decide +kernel
theorem dX5_sumDue_9 : decode cX5_sumDue 9 = .ok (.getfield 95, 3) := by decide +kernel
theorem dX5_sumDue_12 : decode cX5_sumDue 12 = .ok (.if_icmp .ge 53, 3) := by decide +kernel
theorem dX5_sumDue_15 : decode cX5_sumDue 15 = .ok (.aload_n 1, 1) := by decide +kernel
theorem dX5_sumDue_16 : decode cX5_sumDue 16 = .ok (.aload_n 0, 1) := by decide +kernel
theorem dX5_sumDue_17 : decode cX5_sumDue 17 = .ok (.getfield 33, 3) := by decide +kernel
theorem dX5_sumDue_20 : decode cX5_sumDue 20 = .ok (.getfield 224, 3) := by decide +kernel
theorem dX5_sumDue_23 : decode cX5_sumDue 23 = .ok (.iload_n 3, 1) := by decide +kernel
theorem dX5_sumDue_24 : decode cX5_sumDue 24 = .ok (.iaload, 1) := by decide +kernel
theorem dX5_sumDue_25 : decode cX5_sumDue 25 = .ok (.invokevirtual 225, 3) := by decide +kernel
theorem dX5_sumDue_28 : decode cX5_sumDue 28 = .ok (.ifCond .eq 31, 3) := by decide +kernel
theorem dX5_sumDue_31 : decode cX5_sumDue 31 = .ok (.aload_n 0, 1) := by decide +kernel
theorem dX5_sumDue_32 : decode cX5_sumDue 32 = .ok (.getfield 33, 3) := by decide +kernel
theorem dX5_sumDue_35 : decode cX5_sumDue 35 = .ok (.getfield 177, 3) := by decide +kernel
theorem dX5_sumDue_38 : decode cX5_sumDue 38 = .ok (.iload_n 3, 1) := by decide +kernel
theorem dX5_sumDue_39 : decode cX5_sumDue 39 = .ok (.iaload, 1) := by decide +kernel
theorem dX5_sumDue_40 : decode cX5_sumDue 40 = .ok (.aload_n 1, 1) := by decide +kernel
theorem dX5_sumDue_41 : decode cX5_sumDue 41 = .ok (.getfield 263, 3) := by decide +kernel
theorem dX5_sumDue_44 : decode cX5_sumDue 44 = .ok (.if_icmp .gt 15, 3) := by decide +kernel
theorem dX5_sumDue_47 : decode cX5_sumDue 47 = .ok (.iload_n 2, 1) := by decide +kernel
theorem dX5_sumDue_48 : decode cX5_sumDue 48 = .ok (.aload_n 0, 1) := by decide +kernel
theorem dX5_sumDue_49 : decode cX5_sumDue 49 = .ok (.getfield 33, 3) := by decide +kernel
theorem dX5_sumDue_52 : decode cX5_sumDue 52 = .ok (.getfield 193, 3) := by decide +kernel
theorem dX5_sumDue_55 : decode cX5_sumDue 55 = .ok (.iload_n 3, 1) := by decide +kernel
theorem dX5_sumDue_56 : decode cX5_sumDue 56 = .ok (.iaload, 1) := by decide +kernel
theorem dX5_sumDue_57 : decode cX5_sumDue 57 = .ok (.iadd, 1) := by decide +kernel
theorem dX5_sumDue_58 : decode cX5_sumDue 58 = .ok (.istore_n 2, 1) := by decide +kernel
theorem dX5_sumDue_59 : decode cX5_sumDue 59 = .ok (.iinc 3 1, 3) := by decide +kernel
theorem dX5_sumDue_62 : decode cX5_sumDue 62 = .ok (.goto (-58), 3) := by decide +kernel
theorem dX5_sumDue_65 : decode cX5_sumDue 65 = .ok (.iload_n 2, 1) := by decide +kernel
theorem dX5_sumDue_66 : decode cX5_sumDue 66 = .ok (.ireturn, 1) := by decide +kernel
theorem dX5_skipped_0 : decode cX5_skipped 0 = .ok (.aload_n 0, 1) := by decide +kernel
theorem dX5_skipped_1 : decode cX5_skipped 1 = .ok (.iload_n 1, 1) := by decide +kernel
theorem dX5_skipped_2 : decode cX5_skipped 2 = .ok (.invokevirtual 85, 3) := by decide +kernel
theorem dX5_skipped_5 : decode cX5_skipped 5 = .ok (.ifCond .eq 11, 3) := by decide +kernel
theorem dX5_skipped_8 : decode cX5_skipped 8 = .ok (.iload_n 2, 1) := by decide +kernel
theorem dX5_skipped_9 : decode cX5_skipped 9 = .ok (.iconst 3, 1) := by decide +kernel
theorem dX5_skipped_10 : decode cX5_skipped 10 = .ok (.invokestatic 81, 3) := by decide +kernel
theorem dX5_skipped_13 : decode cX5_skipped 13 = .ok (.ifCond .ne 5, 3) := by decide +kernel
theorem dX5_skipped_16 : decode cX5_skipped 16 = .ok (.iconst (-1), 1) := by decide +kernel
theorem dX5_skipped_17 : decode cX5_skipped 17 = .ok (.ireturn, 1) := by decide +kernel
theorem dX5_skipped_18 : decode cX5_skipped 18 = .ok (.aload_n 0, 1) := by decide +kernel
theorem dX5_skipped_19 : decode cX5_skipped 19 = .ok (.getfield 25, 3) := by decide +kernel
theorem dX5_skipped_22 : decode cX5_skipped 22 = .ok (.iload_n 1, 1) := by decide +kernel
theorem dX5_skipped_23 : decode cX5_skipped 23 = .ok (.aaload, 1) := by decide +kernel
theorem dX5_skipped_24 : decode cX5_skipped 24 = .ok (.astore_n 3, 1) := by decide +kernel
theorem dX5_skipped_25 : decode cX5_skipped 25 = .ok (.aload_n 0, 1) := by decide +kernel
theorem dX5_skipped_26 : decode cX5_skipped 26 = .ok (.getfield 39, 3) := by decide +kernel
theorem dX5_skipped_29 : decode cX5_skipped 29 = .ok (.iload_n 2, 1) := by decide +kernel
theorem dX5_skipped_30 : decode cX5_skipped 30 = .ok (.aaload, 1) := by decide +kernel
theorem dX5_skipped_31 : decode cX5_skipped 31 = .ok (.astore 4, 2) := by decide +kernel
theorem dX5_skipped_33 : decode cX5_skipped 33 = .ok (.aload_n 0, 1) := by decide +kernel
theorem dX5_skipped_34 : decode cX5_skipped 34 = .ok (.getfield 18, 3) := by decide +kernel
theorem dX5_skipped_37 : decode cX5_skipped 37 = .ok (.iconst 0, 1) := by decide +kernel
theorem dX5_skipped_38 : decode cX5_skipped 38 = .ok (.iaload, 1) := by decide +kernel
theorem dX5_skipped_39 : decode cX5_skipped 39 = .ok (.iconst 1, 1) := by decide +kernel
theorem dX5_skipped_40 : decode cX5_skipped 40 = .ok (.if_icmp .ne 7, 3) := by decide +kernel
theorem dX5_skipped_43 : decode cX5_skipped 43 = .ok (.iconst 1, 1) := by decide +kernel
theorem dX5_skipped_44 : decode cX5_skipped 44 = .ok (.goto 4, 3) := by decide +kernel
theorem dX5_skipped_47 : decode cX5_skipped 47 = .ok (.iconst 0, 1) := by decide +kernel
theorem dX5_skipped_48 : decode cX5_skipped 48 = .ok (.istore 5, 2) := by decide +kernel
theorem dX5_skipped_50 : decode cX5_skipped 50 = .ok (.iconst 0, 1) := by decide +kernel
theorem dX5_skipped_51 : decode cX5_skipped 51 = .ok (.istore 6, 2) := by decide +kernel
theorem dX5_skipped_53 : decode cX5_skipped 53 = .ok (.iconst 0, 1) := by decide +kernel
theorem dX5_skipped_54 : decode cX5_skipped 54 = .ok (.istore 7, 2) := by decide +kernel
theorem dX5_skipped_56 : decode cX5_skipped 56 = .ok (.iload 7, 2) := by decide +kernel
theorem dX5_skipped_58 : decode cX5_skipped 58 = .ok (.aload_n 3, 1) := by decide +kernel
theorem dX5_skipped_59 : decode cX5_skipped 59 = .ok (.getfield 89, 3) := by decide +kernel
theorem dX5_skipped_62 : decode cX5_skipped 62 = .ok (.if_icmp .ge 64, 3) := by decide +kernel
theorem dX5_skipped_65 : decode cX5_skipped 65 = .ok (.iload 5, 2) := by decide +kernel
theorem dX5_skipped_67 : decode cX5_skipped 67 = .ok (.ifCond .eq 13, 3) := by decide +kernel
theorem dX5_skipped_70 : decode cX5_skipped 70 = .ok (.aload_n 3, 1) := by decide +kernel
theorem dX5_skipped_71 : decode cX5_skipped 71 = .ok (.getfield 108, 3) := by decide +kernel
theorem dX5_skipped_74 : decode cX5_skipped 74 = .ok (.iload 7, 2) := by decide +kernel
theorem dX5_skipped_76 : decode cX5_skipped 76 = .ok (.iaload, 1) := by decide +kernel
theorem dX5_skipped_77 : decode cX5_skipped 77 = .ok (.goto 13, 3) := by decide +kernel
theorem dX5_skipped_80 : decode cX5_skipped 80 = .ok (.aload_n 0, 1) := by decide +kernel
theorem dX5_skipped_81 : decode cX5_skipped 81 = .ok (.getfield 33, 3) := by decide +kernel
theorem dX5_skipped_84 : decode cX5_skipped 84 = .ok (.getfield 95, 3) := by decide +kernel
theorem dX5_skipped_87 : decode cX5_skipped 87 = .ok (.iload 7, 2) := by decide +kernel
theorem dX5_skipped_89 : decode cX5_skipped 89 = .ok (.iadd, 1) := by decide +kernel
theorem dX5_skipped_90 : decode cX5_skipped 90 = .ok (.istore 8, 2) := by decide +kernel
theorem dX5_skipped_92 : decode cX5_skipped 92 = .ok (.aload 4, 2) := by decide +kernel
theorem dX5_skipped_94 : decode cX5_skipped 94 = .ok (.aload_n 3, 1) := by decide +kernel
theorem dX5_skipped_95 : decode cX5_skipped 95 = .ok (.getfield 111, 3) := by decide +kernel
theorem dX5_skipped_98 : decode cX5_skipped 98 = .ok (.iload 7, 2) := by decide +kernel
theorem dX5_skipped_100 : decode cX5_skipped 100 = .ok (.iaload, 1) := by decide +kernel
theorem dX5_skipped_101 : decode cX5_skipped 101 = .ok (.invokevirtual 225, 3) := by decide +kernel
theorem dX5_skipped_104 : decode cX5_skipped 104 = .ok (.ifCond .eq 16, 3) := by decide +kernel
theorem dX5_skipped_107 : decode cX5_skipped 107 = .ok (.iload 8, 2) := by decide +kernel
theorem dX5_skipped_109 : decode cX5_skipped 109 = .ok (.aload 4, 2) := by decide +kernel
theorem dX5_skipped_111 : decode cX5_skipped 111 = .ok (.getfield 228, 3) := by decide +kernel
theorem dX5_skipped_114 : decode cX5_skipped 114 = .ok (.if_icmp .gt 6, 3) := by decide +kernel
theorem dX5_skipped_117 : decode cX5_skipped 117 = .ok (.iinc 6 1, 3) := by decide +kernel
theorem dX5_skipped_120 : decode cX5_skipped 120 = .ok (.iinc 7 1, 3) := by decide +kernel
theorem dX5_skipped_123 : decode cX5_skipped 123 = .ok (.goto (-67), 3) := by decide +kernel
theorem dX5_skipped_126 : decode cX5_skipped 126 = .ok (.iload 6, 2) := by decide +kernel
theorem dX5_skipped_128 : decode cX5_skipped 128 = .ok (.ireturn, 1) := by decide +kernel
theorem dX5_counted_0 : decode cX5_counted 0 = .ok (.iload_n 1, 1) := by decide +kernel
theorem dX5_counted_1 : decode cX5_counted 1 = .ok (.tableswitch 129 0 9 #[55, 60, 65, 73, 81, 89, 97, 105, 113, 121], 55) := by decide +kernel
theorem dX5_counted_56 : decode cX5_counted 56 = .ok (.aload_n 0, 1) := by decide +kernel
theorem dX5_counted_57 : decode cX5_counted 57 = .ok (.getfield 51, 3) := by decide +kernel
theorem dX5_counted_60 : decode cX5_counted 60 = .ok (.ireturn, 1) := by decide +kernel
theorem dX5_counted_61 : decode cX5_counted 61 = .ok (.aload_n 0, 1) := by decide +kernel
theorem dX5_counted_62 : decode cX5_counted 62 = .ok (.getfield 55, 3) := by decide +kernel
theorem dX5_counted_65 : decode cX5_counted 65 = .ok (.ireturn, 1) := by decide +kernel
theorem dX5_counted_66 : decode cX5_counted 66 = .ok (.aload_n 0, 1) := by decide +kernel
theorem dX5_counted_67 : decode cX5_counted 67 = .ok (.getfield 33, 3) := by decide +kernel
theorem dX5_counted_70 : decode cX5_counted 70 = .ok (.getfield 95, 3) := by decide +kernel
theorem dX5_counted_73 : decode cX5_counted 73 = .ok (.ireturn, 1) := by decide +kernel
theorem dX5_counted_74 : decode cX5_counted 74 = .ok (.aload_n 0, 1) := by decide +kernel
theorem dX5_counted_75 : decode cX5_counted 75 = .ok (.getfield 33, 3) := by decide +kernel
theorem dX5_counted_78 : decode cX5_counted 78 = .ok (.getfield 92, 3) := by decide +kernel
theorem dX5_counted_81 : decode cX5_counted 81 = .ok (.ireturn, 1) := by decide +kernel
theorem dX5_counted_82 : decode cX5_counted 82 = .ok (.aload_n 0, 1) := by decide +kernel
theorem dX5_counted_83 : decode cX5_counted 83 = .ok (.getfield 33, 3) := by decide +kernel
theorem dX5_counted_86 : decode cX5_counted 86 = .ok (.getfield 237, 3) := by decide +kernel
theorem dX5_counted_89 : decode cX5_counted 89 = .ok (.ireturn, 1) := by decide +kernel
theorem dX5_counted_90 : decode cX5_counted 90 = .ok (.aload_n 0, 1) := by decide +kernel
theorem dX5_counted_91 : decode cX5_counted 91 = .ok (.getfield 47, 3) := by decide +kernel
theorem dX5_counted_94 : decode cX5_counted 94 = .ok (.getfield 266, 3) := by decide +kernel
theorem dX5_counted_97 : decode cX5_counted 97 = .ok (.ireturn, 1) := by decide +kernel
theorem dX5_counted_98 : decode cX5_counted 98 = .ok (.aload_n 0, 1) := by decide +kernel
theorem dX5_counted_99 : decode cX5_counted 99 = .ok (.getfield 47, 3) := by decide +kernel
theorem dX5_counted_102 : decode cX5_counted 102 = .ok (.getfield 269, 3) := by decide +kernel
theorem dX5_counted_105 : decode cX5_counted 105 = .ok (.ireturn, 1) := by decide +kernel
theorem dX5_counted_106 : decode cX5_counted 106 = .ok (.aload_n 0, 1) := by decide +kernel
theorem dX5_counted_107 : decode cX5_counted 107 = .ok (.getfield 47, 3) := by decide +kernel
theorem dX5_counted_110 : decode cX5_counted 110 = .ok (.getfield 243, 3) := by decide +kernel
theorem dX5_counted_113 : decode cX5_counted 113 = .ok (.ireturn, 1) := by decide +kernel
theorem dX5_counted_114 : decode cX5_counted 114 = .ok (.aload_n 0, 1) := by decide +kernel
theorem dX5_counted_115 : decode cX5_counted 115 = .ok (.getfield 47, 3) := by decide +kernel
theorem dX5_counted_118 : decode cX5_counted 118 = .ok (.getfield 272, 3) := by decide +kernel
theorem dX5_counted_121 : decode cX5_counted 121 = .ok (.ireturn, 1) := by decide +kernel
theorem dX5_counted_122 : decode cX5_counted 122 = .ok (.aload_n 0, 1) := by decide +kernel
theorem dX5_counted_123 : decode cX5_counted 123 = .ok (.getfield 47, 3) := by decide +kernel
theorem dX5_counted_126 : decode cX5_counted 126 = .ok (.getfield 160, 3) := by decide +kernel
theorem dX5_counted_129 : decode cX5_counted 129 = .ok (.ireturn, 1) := by decide +kernel
theorem dX5_counted_130 : decode cX5_counted 130 = .ok (.aload_n 0, 1) := by decide +kernel
theorem dX5_counted_131 : decode cX5_counted 131 = .ok (.invokevirtual 275, 3) := by decide +kernel
theorem dX5_counted_134 : decode cX5_counted 134 = .ok (.ireturn, 1) := by decide +kernel
theorem dX5_openTransactions_0 : decode cX5_openTransactions 0 = .ok (.iconst 0, 1) := by decide +kernel
theorem dX5_openTransactions_1 : decode cX5_openTransactions 1 = .ok (.istore_n 1, 1) := by decide +kernel
theorem dX5_openTransactions_2 : decode cX5_openTransactions 2 = .ok (.iconst 0, 1) := by decide +kernel
theorem dX5_openTransactions_3 : decode cX5_openTransactions 3 = .ok (.istore_n 2, 1) := by decide +kernel
theorem dX5_openTransactions_4 : decode cX5_openTransactions 4 = .ok (.iload_n 2, 1) := by decide +kernel
theorem dX5_openTransactions_5 : decode cX5_openTransactions 5 = .ok (.iconst 4, 1) := by decide +kernel
theorem dX5_openTransactions_6 : decode cX5_openTransactions 6 = .ok (.if_icmp .ge 24, 3) := by decide +kernel
theorem dX5_openTransactions_9 : decode cX5_openTransactions 9 = .ok (.aload_n 0, 1) := by decide +kernel
theorem dX5_openTransactions_10 : decode cX5_openTransactions 10 = .ok (.getfield 25, 3) := by decide +kernel
theorem dX5_openTransactions_13 : decode cX5_openTransactions 13 = .ok (.iload_n 2, 1) := by decide +kernel
theorem dX5_openTransactions_14 : decode cX5_openTransactions 14 = .ok (.aaload, 1) := by decide +kernel
theorem dX5_openTransactions_15 : decode cX5_openTransactions 15 = .ok (.getfield 77, 3) := by decide +kernel
theorem dX5_openTransactions_18 : decode cX5_openTransactions 18 = .ok (.ifCond .eq 6, 3) := by decide +kernel
theorem dX5_openTransactions_21 : decode cX5_openTransactions 21 = .ok (.iinc 1 1, 3) := by decide +kernel
theorem dX5_openTransactions_24 : decode cX5_openTransactions 24 = .ok (.iinc 2 1, 3) := by decide +kernel
theorem dX5_openTransactions_27 : decode cX5_openTransactions 27 = .ok (.goto (-23), 3) := by decide +kernel
theorem dX5_openTransactions_30 : decode cX5_openTransactions 30 = .ok (.iload_n 1, 1) := by decide +kernel
theorem dX5_openTransactions_31 : decode cX5_openTransactions 31 = .ok (.ireturn, 1) := by decide +kernel
