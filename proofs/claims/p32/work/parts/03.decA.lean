theorem dX0_init_0 : decode cX0_init 0 = .ok (.aload_n 0, 1) := by decide +kernel
theorem dX0_init_1 : decode cX0_init 1 = .ok (.invokespecial 3, 3) := by decide +kernel
theorem dX0_init_4 : decode cX0_init 4 = .ok (.aload_n 0, 1) := by decide +kernel
theorem dX0_init_5 : decode cX0_init 5 = .ok (.bipush 55, 2) := by decide +kernel
theorem dX0_init_7 : decode cX0_init 7 = .ok (.anewarray 9, 3) := by decide +kernel
theorem dX0_init_10 : decode cX0_init 10 = .ok (.putfield 11, 3) := by decide +kernel
theorem dX0_init_13 : decode cX0_init 13 = .ok (.iconst 0, 1) := by decide +kernel
theorem dX0_init_14 : decode cX0_init 14 = .ok (.istore_n 1, 1) := by decide +kernel
theorem dX0_init_15 : decode cX0_init 15 = .ok (.iload_n 1, 1) := by decide +kernel
theorem dX0_init_16 : decode cX0_init 16 = .ok (.bipush 54, 2) := by decide +kernel
theorem dX0_init_18 : decode cX0_init 18 = .ok (.if_icmp .gt 22, 3) := by decide +kernel
theorem dX0_init_21 : decode cX0_init 21 = .ok (.aload_n 0, 1) := by decide +kernel
theorem dX0_init_22 : decode cX0_init 22 = .ok (.getfield 11, 3) := by decide +kernel
theorem dX0_init_25 : decode cX0_init 25 = .ok (.iload_n 1, 1) := by decide +kernel
theorem dX0_init_26 : decode cX0_init 26 = .ok (.new 9, 3) := by decide +kernel
theorem dX0_init_29 : decode cX0_init 29 = .ok (.dup, 1) := by decide +kernel
theorem dX0_init_30 : decode cX0_init 30 = .ok (.invokespecial 17, 3) := by decide +kernel
theorem dX0_init_33 : decode cX0_init 33 = .ok (.aastore, 1) := by decide +kernel
theorem dX0_init_34 : decode cX0_init 34 = .ok (.iinc 1 1, 3) := by decide +kernel
theorem dX0_init_37 : decode cX0_init 37 = .ok (.goto (-22), 3) := by decide +kernel
theorem dX0_init_40 : decode cX0_init 40 = .ok (.aload_n 0, 1) := by decide +kernel
theorem dX0_init_41 : decode cX0_init 41 = .ok (.iconst 0, 1) := by decide +kernel
theorem dX0_init_42 : decode cX0_init 42 = .ok (.putfield 18, 3) := by decide +kernel
theorem dX0_init_45 : decode cX0_init 45 = .ok (.aload_n 0, 1) := by decide +kernel
theorem dX0_init_46 : decode cX0_init 46 = .ok (.iconst 0, 1) := by decide +kernel
theorem dX0_init_47 : decode cX0_init 47 = .ok (.putfield 22, 3) := by decide +kernel
theorem dX0_init_50 : decode cX0_init 50 = .ok (.aload_n 0, 1) := by decide +kernel
theorem dX0_init_51 : decode cX0_init 51 = .ok (.iconst 0, 1) := by decide +kernel
theorem dX0_init_52 : decode cX0_init 52 = .ok (.putfield 25, 3) := by decide +kernel
theorem dX0_init_55 : decode cX0_init 55 = .ok (.aload_n 0, 1) := by decide +kernel
theorem dX0_init_56 : decode cX0_init 56 = .ok (.iconst 0, 1) := by decide +kernel
theorem dX0_init_57 : decode cX0_init 57 = .ok (.putfield 28, 3) := by decide +kernel
theorem dX0_init_60 : decode cX0_init 60 = .ok (.aload_n 0, 1) := by decide +kernel
theorem dX0_init_61 : decode cX0_init 61 = .ok (.iconst 0, 1) := by decide +kernel
theorem dX0_init_62 : decode cX0_init 62 = .ok (.putfield 31, 3) := by decide +kernel
theorem dX0_init_65 : decode cX0_init 65 = .ok (.aload_n 0, 1) := by decide +kernel
theorem dX0_init_66 : decode cX0_init 66 = .ok (.iconst 0, 1) := by decide +kernel
theorem dX0_init_67 : decode cX0_init 67 = .ok (.putfield 34, 3) := by decide +kernel
theorem dX0_init_70 : decode cX0_init 70 = .ok (.return_, 1) := by decide +kernel
theorem dX0_copyFrom_0 : decode cX0_copyFrom 0 = .ok (.iconst 0, 1) := by decide +kernel
theorem dX0_copyFrom_1 : decode cX0_copyFrom 1 = .ok (.istore_n 2, 1) := by decide +kernel
theorem dX0_copyFrom_2 : decode cX0_copyFrom 2 = .ok (.iload_n 2, 1) := by decide +kernel
theorem dX0_copyFrom_3 : decode cX0_copyFrom 3 = .ok (.aload_n 1, 1) := by decide +kernel
theorem dX0_copyFrom_4 : decode cX0_copyFrom 4 = .ok (.getfield 18, 3) := by decide +kernel
theorem dX0_copyFrom_7 : decode cX0_copyFrom 7 = .ok (.if_icmp .ge 24, 3) := by decide +kernel
theorem dX0_copyFrom_10 : decode cX0_copyFrom 10 = .ok (.aload_n 0, 1) := by decide +kernel
theorem dX0_copyFrom_11 : decode cX0_copyFrom 11 = .ok (.getfield 11, 3) := by decide +kernel
theorem dX0_copyFrom_14 : decode cX0_copyFrom 14 = .ok (.iload_n 2, 1) := by decide +kernel
theorem dX0_copyFrom_15 : decode cX0_copyFrom 15 = .ok (.aaload, 1) := by decide +kernel
theorem dX0_copyFrom_16 : decode cX0_copyFrom 16 = .ok (.aload_n 1, 1) := by decide +kernel
theorem dX0_copyFrom_17 : decode cX0_copyFrom 17 = .ok (.getfield 11, 3) := by decide +kernel
theorem dX0_copyFrom_20 : decode cX0_copyFrom 20 = .ok (.iload_n 2, 1) := by decide +kernel
theorem dX0_copyFrom_21 : decode cX0_copyFrom 21 = .ok (.aaload, 1) := by decide +kernel
theorem dX0_copyFrom_22 : decode cX0_copyFrom 22 = .ok (.invokevirtual 37, 3) := by decide +kernel
theorem dX0_copyFrom_25 : decode cX0_copyFrom 25 = .ok (.iinc 2 1, 3) := by decide +kernel
theorem dX0_copyFrom_28 : decode cX0_copyFrom 28 = .ok (.goto (-26), 3) := by decide +kernel
theorem dX0_copyFrom_31 : decode cX0_copyFrom 31 = .ok (.aload_n 0, 1) := by decide +kernel
theorem dX0_copyFrom_32 : decode cX0_copyFrom 32 = .ok (.aload_n 1, 1) := by decide +kernel
theorem dX0_copyFrom_33 : decode cX0_copyFrom 33 = .ok (.getfield 18, 3) := by decide +kernel
theorem dX0_copyFrom_36 : decode cX0_copyFrom 36 = .ok (.putfield 18, 3) := by decide +kernel
theorem dX0_copyFrom_39 : decode cX0_copyFrom 39 = .ok (.aload_n 0, 1) := by decide +kernel
theorem dX0_copyFrom_40 : decode cX0_copyFrom 40 = .ok (.aload_n 1, 1) := by decide +kernel
theorem dX0_copyFrom_41 : decode cX0_copyFrom 41 = .ok (.getfield 22, 3) := by decide +kernel
theorem dX0_copyFrom_44 : decode cX0_copyFrom 44 = .ok (.putfield 22, 3) := by decide +kernel
theorem dX0_copyFrom_47 : decode cX0_copyFrom 47 = .ok (.aload_n 0, 1) := by decide +kernel
theorem dX0_copyFrom_48 : decode cX0_copyFrom 48 = .ok (.aload_n 1, 1) := by decide +kernel
theorem dX0_copyFrom_49 : decode cX0_copyFrom 49 = .ok (.getfield 25, 3) := by decide +kernel
theorem dX0_copyFrom_52 : decode cX0_copyFrom 52 = .ok (.putfield 25, 3) := by decide +kernel
theorem dX0_copyFrom_55 : decode cX0_copyFrom 55 = .ok (.aload_n 0, 1) := by decide +kernel
theorem dX0_copyFrom_56 : decode cX0_copyFrom 56 = .ok (.aload_n 1, 1) := by decide +kernel
theorem dX0_copyFrom_57 : decode cX0_copyFrom 57 = .ok (.getfield 28, 3) := by decide +kernel
theorem dX0_copyFrom_60 : decode cX0_copyFrom 60 = .ok (.putfield 28, 3) := by decide +kernel
theorem dX0_copyFrom_63 : decode cX0_copyFrom 63 = .ok (.aload_n 0, 1) := by decide +kernel
theorem dX0_copyFrom_64 : decode cX0_copyFrom 64 = .ok (.aload_n 1, 1) := by decide +kernel
theorem dX0_copyFrom_65 : decode cX0_copyFrom 65 = .ok (.getfield 31, 3) := by decide +kernel
theorem dX0_copyFrom_68 : decode cX0_copyFrom 68 = .ok (.putfield 31, 3) := by decide +kernel
theorem dX0_copyFrom_71 : decode cX0_copyFrom 71 = .ok (.aload_n 0, 1) := by decide +kernel
theorem dX0_copyFrom_72 : decode cX0_copyFrom 72 = .ok (.aload_n 1, 1) := by decide +kernel
theorem dX0_copyFrom_73 : decode cX0_copyFrom 73 = .ok (.getfield 34, 3) := by decide +kernel
theorem dX0_copyFrom_76 : decode cX0_copyFrom 76 = .ok (.putfield 34, 3) := by decide +kernel
theorem dX0_copyFrom_79 : decode cX0_copyFrom 79 = .ok (.return_, 1) := by decide +kernel
theorem dX0_dueAt_0 : decode cX0_dueAt 0 = .ok (.iconst 0, 1) := by decide +kernel
theorem dX0_dueAt_1 : decode cX0_dueAt 1 = .ok (.istore_n 2, 1) := by decide +kernel
theorem dX0_dueAt_2 : decode cX0_dueAt 2 = .ok (.iload_n 2, 1) := by decide +kernel
theorem dX0_dueAt_3 : decode cX0_dueAt 3 = .ok (.aload_n 0, 1) := by decide +kernel
theorem dX0_dueAt_4 : decode cX0_dueAt 4 = .ok (.getfield 18, 3) := by decide +kernel
theorem dX0_dueAt_7 : decode cX0_dueAt 7 = .ok (.if_icmp .ge 22, 3) := by decide +kernel
theorem dX0_dueAt_10 : decode cX0_dueAt 10 = .ok (.aload_n 0, 1) := by decide +kernel
theorem dX0_dueAt_11 : decode cX0_dueAt 11 = .ok (.getfield 11, 3) := by decide +kernel
theorem dX0_dueAt_14 : decode cX0_dueAt 14 = .ok (.iload_n 2, 1) := by decide +kernel
theorem dX0_dueAt_15 : decode cX0_dueAt 15 = .ok (.aaload, 1) := by decide +kernel
theorem dX0_dueAt_16 : decode cX0_dueAt 16 = .ok (.getfield 41, 3) := by decide +kernel
theorem dX0_dueAt_19 : decode cX0_dueAt 19 = .ok (.iload_n 1, 1) := by decide +kernel
theorem dX0_dueAt_20 : decode cX0_dueAt 20 = .ok (.if_icmp .gt 9, 3) := by decide +kernel
theorem dX0_dueAt_23 : decode cX0_dueAt 23 = .ok (.iinc 2 1, 3) := by decide +kernel
theorem dX0_dueAt_26 : decode cX0_dueAt 26 = .ok (.goto (-24), 3) := by decide +kernel
theorem dX0_dueAt_29 : decode cX0_dueAt 29 = .ok (.iload_n 2, 1) := by decide +kernel
theorem dX0_dueAt_30 : decode cX0_dueAt 30 = .ok (.ireturn, 1) := by decide +kernel
theorem dX0_removeFirst_0 : decode cX0_removeFirst 0 = .ok (.aload_n 0, 1) := by decide +kernel
theorem dX0_removeFirst_1 : decode cX0_removeFirst 1 = .ok (.getfield 18, 3) := by decide +kernel
theorem dX0_removeFirst_4 : decode cX0_removeFirst 4 = .ok (.ifCond .ne 4, 3) := by decide +kernel
theorem dX0_removeFirst_7 : decode cX0_removeFirst 7 = .ok (.return_, 1) := by decide +kernel
theorem dX0_removeFirst_8 : decode cX0_removeFirst 8 = .ok (.aload_n 0, 1) := by decide +kernel
theorem dX0_removeFirst_9 : decode cX0_removeFirst 9 = .ok (.getfield 11, 3) := by decide +kernel
theorem dX0_removeFirst_12 : decode cX0_removeFirst 12 = .ok (.iconst 0, 1) := by decide +kernel
theorem dX0_removeFirst_13 : decode cX0_removeFirst 13 = .ok (.aaload, 1) := by decide +kernel
theorem dX0_removeFirst_14 : decode cX0_removeFirst 14 = .ok (.astore_n 1, 1) := by decide +kernel
theorem dX0_removeFirst_15 : decode cX0_removeFirst 15 = .ok (.iconst 1, 1) := by decide +kernel
theorem dX0_removeFirst_16 : decode cX0_removeFirst 16 = .ok (.istore_n 2, 1) := by decide +kernel
theorem dX0_removeFirst_17 : decode cX0_removeFirst 17 = .ok (.iload_n 2, 1) := by decide +kernel
theorem dX0_removeFirst_18 : decode cX0_removeFirst 18 = .ok (.aload_n 0, 1) := by decide +kernel
theorem dX0_removeFirst_19 : decode cX0_removeFirst 19 = .ok (.getfield 18, 3) := by decide +kernel
theorem dX0_removeFirst_22 : decode cX0_removeFirst 22 = .ok (.if_icmp .ge 23, 3) := by decide +kernel
theorem dX0_removeFirst_25 : decode cX0_removeFirst 25 = .ok (.aload_n 0, 1) := by decide +kernel
theorem dX0_removeFirst_26 : decode cX0_removeFirst 26 = .ok (.getfield 11, 3) := by decide +kernel
theorem dX0_removeFirst_29 : decode cX0_removeFirst 29 = .ok (.iload_n 2, 1) := by decide +kernel
theorem dX0_removeFirst_30 : decode cX0_removeFirst 30 = .ok (.iconst 1, 1) := by decide +kernel
theorem dX0_removeFirst_31 : decode cX0_removeFirst 31 = .ok (.isub, 1) := by decide +kernel
theorem dX0_removeFirst_32 : decode cX0_removeFirst 32 = .ok (.aload_n 0, 1) := by decide +kernel
theorem dX0_removeFirst_33 : decode cX0_removeFirst 33 = .ok (.getfield 11, 3) := by decide +kernel
theorem dX0_removeFirst_36 : decode cX0_removeFirst 36 = .ok (.iload_n 2, 1) := by decide +kernel
theorem dX0_removeFirst_37 : decode cX0_removeFirst 37 = .ok (.aaload, 1) := by decide +kernel
theorem dX0_removeFirst_38 : decode cX0_removeFirst 38 = .ok (.aastore, 1) := by decide +kernel
theorem dX0_removeFirst_39 : decode cX0_removeFirst 39 = .ok (.iinc 2 1, 3) := by decide +kernel
theorem dX0_removeFirst_42 : decode cX0_removeFirst 42 = .ok (.goto (-25), 3) := by decide +kernel
theorem dX0_removeFirst_45 : decode cX0_removeFirst 45 = .ok (.aload_n 0, 1) := by decide +kernel
theorem dX0_removeFirst_46 : decode cX0_removeFirst 46 = .ok (.dup, 1) := by decide +kernel
theorem dX0_removeFirst_47 : decode cX0_removeFirst 47 = .ok (.getfield 18, 3) := by decide +kernel
theorem dX0_removeFirst_50 : decode cX0_removeFirst 50 = .ok (.iconst 1, 1) := by decide +kernel
theorem dX0_removeFirst_51 : decode cX0_removeFirst 51 = .ok (.isub, 1) := by decide +kernel
theorem dX0_removeFirst_52 : decode cX0_removeFirst 52 = .ok (.putfield 18, 3) := by decide +kernel
theorem dX0_removeFirst_55 : decode cX0_removeFirst 55 = .ok (.aload_n 0, 1) := by decide +kernel
theorem dX0_removeFirst_56 : decode cX0_removeFirst 56 = .ok (.getfield 11, 3) := by decide +kernel
theorem dX0_removeFirst_59 : decode cX0_removeFirst 59 = .ok (.aload_n 0, 1) := by decide +kernel
theorem dX0_removeFirst_60 : decode cX0_removeFirst 60 = .ok (.getfield 18, 3) := by decide +kernel
theorem dX0_removeFirst_63 : decode cX0_removeFirst 63 = .ok (.aload_n 1, 1) := by decide +kernel
theorem dX0_removeFirst_64 : decode cX0_removeFirst 64 = .ok (.aastore, 1) := by decide +kernel
theorem dX0_removeFirst_65 : decode cX0_removeFirst 65 = .ok (.return_, 1) := by decide +kernel
theorem dX0_draft_0 : decode cX0_draft 0 = .ok (.aload_n 0, 1) := by decide +kernel
theorem dX0_draft_1 : decode cX0_draft 1 = .ok (.getfield 11, 3) := by decide +kernel
theorem dX0_draft_4 : decode cX0_draft 4 = .ok (.aload_n 0, 1) := by decide +kernel
theorem dX0_draft_5 : decode cX0_draft 5 = .ok (.getfield 18, 3) := by decide +kernel
theorem dX0_draft_8 : decode cX0_draft 8 = .ok (.aaload, 1) := by decide +kernel
theorem dX0_draft_9 : decode cX0_draft 9 = .ok (.areturn, 1) := by decide +kernel
theorem dX0_postDraft_0 : decode cX0_postDraft 0 = .ok (.aload_n 0, 1) := by decide +kernel
theorem dX0_postDraft_1 : decode cX0_postDraft 1 = .ok (.getfield 11, 3) := by decide +kernel
theorem dX0_postDraft_4 : decode cX0_postDraft 4 = .ok (.aload_n 0, 1) := by decide +kernel
theorem dX0_postDraft_5 : decode cX0_postDraft 5 = .ok (.getfield 18, 3) := by decide +kernel
theorem dX0_postDraft_8 : decode cX0_postDraft 8 = .ok (.aaload, 1) := by decide +kernel
theorem dX0_postDraft_9 : decode cX0_postDraft 9 = .ok (.astore_n 3, 1) := by decide +kernel
theorem dX0_postDraft_10 : decode cX0_postDraft 10 = .ok (.aload_n 0, 1) := by decide +kernel
theorem dX0_postDraft_11 : decode cX0_postDraft 11 = .ok (.dup, 1) := by decide +kernel
theorem dX0_postDraft_12 : decode cX0_postDraft 12 = .ok (.getfield 22, 3) := by decide +kernel
theorem dX0_postDraft_15 : decode cX0_postDraft 15 = .ok (.iconst 1, 1) := by decide +kernel
theorem dX0_postDraft_16 : decode cX0_postDraft 16 = .ok (.iadd, 1) := by decide +kernel
theorem dX0_postDraft_17 : decode cX0_postDraft 17 = .ok (.putfield 22, 3) := by decide +kernel
theorem dX0_postDraft_20 : decode cX0_postDraft 20 = .ok (.aload_n 3, 1) := by decide +kernel
theorem dX0_postDraft_21 : decode cX0_postDraft 21 = .ok (.getfield 44, 3) := by decide +kernel
theorem dX0_postDraft_24 : decode cX0_postDraft 24 = .ok (.ifCond .ne 26, 3) := by decide +kernel
theorem dX0_postDraft_27 : decode cX0_postDraft 27 = .ok (.aload_n 0, 1) := by decide +kernel
theorem dX0_postDraft_28 : decode cX0_postDraft 28 = .ok (.dup, 1) := by decide +kernel
theorem dX0_postDraft_29 : decode cX0_postDraft 29 = .ok (.getfield 28, 3) := by decide +kernel
theorem dX0_postDraft_32 : decode cX0_postDraft 32 = .ok (.iconst 1, 1) := by decide +kernel
theorem dX0_postDraft_33 : decode cX0_postDraft 33 = .ok (.iadd, 1) := by decide +kernel
theorem dX0_postDraft_34 : decode cX0_postDraft 34 = .ok (.putfield 28, 3) := by decide +kernel
theorem dX0_postDraft_37 : decode cX0_postDraft 37 = .ok (.aload_n 0, 1) := by decide +kernel
theorem dX0_postDraft_38 : decode cX0_postDraft 38 = .ok (.dup, 1) := by decide +kernel
theorem dX0_postDraft_39 : decode cX0_postDraft 39 = .ok (.getfield 31, 3) := by decide +kernel
theorem dX0_postDraft_42 : decode cX0_postDraft 42 = .ok (.aload_n 3, 1) := by decide +kernel
theorem dX0_postDraft_43 : decode cX0_postDraft 43 = .ok (.getfield 48, 3) := by decide +kernel
theorem dX0_postDraft_46 : decode cX0_postDraft 46 = .ok (.iadd, 1) := by decide +kernel
theorem dX0_postDraft_47 : decode cX0_postDraft 47 = .ok (.putfield 31, 3) := by decide +kernel
theorem dX0_postDraft_50 : decode cX0_postDraft 50 = .ok (.iload_n 2, 1) := by decide +kernel
theorem dX0_postDraft_51 : decode cX0_postDraft 51 = .ok (.ifCond .le 23, 3) := by decide +kernel
theorem dX0_postDraft_54 : decode cX0_postDraft 54 = .ok (.aload_n 0, 1) := by decide +kernel
theorem dX0_postDraft_55 : decode cX0_postDraft 55 = .ok (.getfield 22, 3) := by decide +kernel
theorem dX0_postDraft_58 : decode cX0_postDraft 58 = .ok (.iload_n 2, 1) := by decide +kernel
theorem dX0_postDraft_59 : decode cX0_postDraft 59 = .ok (.irem, 1) := by decide +kernel
theorem dX0_postDraft_60 : decode cX0_postDraft 60 = .ok (.ifCond .ne 14, 3) := by decide +kernel
theorem dX0_postDraft_63 : decode cX0_postDraft 63 = .ok (.aload_n 0, 1) := by decide +kernel
theorem dX0_postDraft_64 : decode cX0_postDraft 64 = .ok (.dup, 1) := by decide +kernel
theorem dX0_postDraft_65 : decode cX0_postDraft 65 = .ok (.getfield 25, 3) := by decide +kernel
theorem dX0_postDraft_68 : decode cX0_postDraft 68 = .ok (.iconst 1, 1) := by decide +kernel
theorem dX0_postDraft_69 : decode cX0_postDraft 69 = .ok (.iadd, 1) := by decide +kernel
theorem dX0_postDraft_70 : decode cX0_postDraft 70 = .ok (.putfield 25, 3) := by decide +kernel
theorem dX0_postDraft_73 : decode cX0_postDraft 73 = .ok (.return_, 1) := by decide +kernel
theorem dX0_postDraft_74 : decode cX0_postDraft 74 = .ok (.aload_n 0, 1) := by decide +kernel
theorem dX0_postDraft_75 : decode cX0_postDraft 75 = .ok (.getfield 18, 3) := by decide +kernel
theorem dX0_postDraft_78 : decode cX0_postDraft 78 = .ok (.bipush 54, 2) := by decide +kernel
theorem dX0_postDraft_80 : decode cX0_postDraft 80 = .ok (.if_icmp .lt 4, 3) := by decide +kernel
theorem dX0_postDraft_83 : decode cX0_postDraft 83 = .ok (.return_, 1) := by decide +kernel
theorem dX0_postDraft_84 : decode cX0_postDraft 84 = .ok (.aload_n 3, 1) := by decide +kernel
theorem dX0_postDraft_85 : decode cX0_postDraft 85 = .ok (.iload_n 1, 1) := by decide +kernel
theorem dX0_postDraft_86 : decode cX0_postDraft 86 = .ok (.putfield 41, 3) := by decide +kernel
theorem dX0_postDraft_89 : decode cX0_postDraft 89 = .ok (.aload_n 0, 1) := by decide +kernel
theorem dX0_postDraft_90 : decode cX0_postDraft 90 = .ok (.getfield 18, 3) := by decide +kernel
theorem dX0_postDraft_93 : decode cX0_postDraft 93 = .ok (.istore 4, 2) := by decide +kernel
theorem dX0_postDraft_95 : decode cX0_postDraft 95 = .ok (.iload 4, 2) := by decide +kernel
theorem dX0_postDraft_97 : decode cX0_postDraft 97 = .ok (.ifCond .le 41, 3) := by decide +kernel
theorem dX0_postDraft_100 : decode cX0_postDraft 100 = .ok (.aload_n 0, 1) := by decide +kernel
theorem dX0_postDraft_101 : decode cX0_postDraft 101 = .ok (.getfield 11, 3) := by decide +kernel
theorem dX0_postDraft_104 : decode cX0_postDraft 104 = .ok (.iload 4, 2) := by decide +kernel
theorem dX0_postDraft_106 : decode cX0_postDraft 106 = .ok (.iconst 1, 1) := by decide +kernel
theorem dX0_postDraft_107 : decode cX0_postDraft 107 = .ok (.isub, 1) := by decide +kernel
theorem dX0_postDraft_108 : decode cX0_postDraft 108 = .ok (.aaload, 1) := by decide +kernel
theorem dX0_postDraft_109 : decode cX0_postDraft 109 = .ok (.getfield 41, 3) := by decide +kernel
theorem dX0_postDraft_112 : decode cX0_postDraft 112 = .ok (.iload_n 1, 1) := by decide +kernel
theorem dX0_postDraft_113 : decode cX0_postDraft 113 = .ok (.if_icmp .le 25, 3) := by decide +kernel
theorem dX0_postDraft_116 : decode cX0_postDraft 116 = .ok (.aload_n 0, 1) := by decide +kernel
theorem dX0_postDraft_117 : decode cX0_postDraft 117 = .ok (.getfield 11, 3) := by decide +kernel
theorem dX0_postDraft_120 : decode cX0_postDraft 120 = .ok (.iload 4, 2) := by decide +kernel
theorem dX0_postDraft_122 : decode cX0_postDraft 122 = .ok (.aload_n 0, 1) := by decide +kernel
theorem dX0_postDraft_123 : decode cX0_postDraft 123 = .ok (.getfield 11, 3) := by decide +kernel
theorem dX0_postDraft_126 : decode cX0_postDraft 126 = .ok (.iload 4, 2) := by decide +kernel
theorem dX0_postDraft_128 : decode cX0_postDraft 128 = .ok (.iconst 1, 1) := by decide +kernel
theorem dX0_postDraft_129 : decode cX0_postDraft 129 = .ok (.isub, 1) := by decide +kernel
theorem dX0_postDraft_130 : decode cX0_postDraft 130 = .ok (.aaload, 1) := by decide +kernel
theorem dX0_postDraft_131 : decode cX0_postDraft 131 = .ok (.aastore, 1) := by decide +kernel
theorem dX0_postDraft_132 : decode cX0_postDraft 132 = .ok (.iinc 4 (-1), 3) := by decide +kernel
theorem dX0_postDraft_135 : decode cX0_postDraft 135 = .ok (.goto (-40), 3) := by decide +kernel
theorem dX0_postDraft_138 : decode cX0_postDraft 138 = .ok (.aload_n 0, 1) := by decide +kernel
theorem dX0_postDraft_139 : decode cX0_postDraft 139 = .ok (.getfield 11, 3) := by decide +kernel
theorem dX0_postDraft_142 : decode cX0_postDraft 142 = .ok (.iload 4, 2) := by decide +kernel
theorem dX0_postDraft_144 : decode cX0_postDraft 144 = .ok (.aload_n 3, 1) := by decide +kernel
theorem dX0_postDraft_145 : decode cX0_postDraft 145 = .ok (.aastore, 1) := by decide +kernel
theorem dX0_postDraft_146 : decode cX0_postDraft 146 = .ok (.aload_n 0, 1) := by decide +kernel
theorem dX0_postDraft_147 : decode cX0_postDraft 147 = .ok (.dup, 1) := by decide +kernel
theorem dX0_postDraft_148 : decode cX0_postDraft 148 = .ok (.getfield 18, 3) := by decide +kernel
theorem dX0_postDraft_151 : decode cX0_postDraft 151 = .ok (.iconst 1, 1) := by decide +kernel
theorem dX0_postDraft_152 : decode cX0_postDraft 152 = .ok (.iadd, 1) := by decide +kernel
theorem dX0_postDraft_153 : decode cX0_postDraft 153 = .ok (.putfield 18, 3) := by decide +kernel
theorem dX0_postDraft_156 : decode cX0_postDraft 156 = .ok (.return_, 1) := by decide +kernel
theorem dX0_onWayOf_0 : decode cX0_onWayOf 0 = .ok (.iconst 0, 1) := by decide +kernel
theorem dX0_onWayOf_1 : decode cX0_onWayOf 1 = .ok (.istore_n 2, 1) := by decide +kernel
theorem dX0_onWayOf_2 : decode cX0_onWayOf 2 = .ok (.iconst 0, 1) := by decide +kernel
theorem dX0_onWayOf_3 : decode cX0_onWayOf 3 = .ok (.istore_n 3, 1) := by decide +kernel
theorem dX0_onWayOf_4 : decode cX0_onWayOf 4 = .ok (.iload_n 3, 1) := by decide +kernel
theorem dX0_onWayOf_5 : decode cX0_onWayOf 5 = .ok (.aload_n 0, 1) := by decide +kernel
theorem dX0_onWayOf_6 : decode cX0_onWayOf 6 = .ok (.getfield 18, 3) := by decide +kernel
theorem dX0_onWayOf_9 : decode cX0_onWayOf 9 = .ok (.if_icmp .ge 25, 3) := by decide +kernel
theorem dX0_onWayOf_12 : decode cX0_onWayOf 12 = .ok (.aload_n 0, 1) := by decide +kernel
theorem dX0_onWayOf_13 : decode cX0_onWayOf 13 = .ok (.getfield 11, 3) := by decide +kernel
theorem dX0_onWayOf_16 : decode cX0_onWayOf 16 = .ok (.iload_n 3, 1) := by decide +kernel
theorem dX0_onWayOf_17 : decode cX0_onWayOf 17 = .ok (.aaload, 1) := by decide +kernel
theorem dX0_onWayOf_18 : decode cX0_onWayOf 18 = .ok (.getfield 51, 3) := by decide +kernel
theorem dX0_onWayOf_21 : decode cX0_onWayOf 21 = .ok (.iload_n 1, 1) := by decide +kernel
theorem dX0_onWayOf_22 : decode cX0_onWayOf 22 = .ok (.if_icmp .ne 6, 3) := by decide +kernel
theorem dX0_onWayOf_25 : decode cX0_onWayOf 25 = .ok (.iinc 2 1, 3) := by decide +kernel
theorem dX0_onWayOf_28 : decode cX0_onWayOf 28 = .ok (.iinc 3 1, 3) := by decide +kernel
theorem dX0_onWayOf_31 : decode cX0_onWayOf 31 = .ok (.goto (-27), 3) := by decide +kernel
theorem dX0_onWayOf_34 : decode cX0_onWayOf 34 = .ok (.iload_n 2, 1) := by decide +kernel
theorem dX0_onWayOf_35 : decode cX0_onWayOf 35 = .ok (.ireturn, 1) := by decide +kernel
theorem dX1_init_0 : decode cX1_init 0 = .ok (.aload_n 0, 1) := by decide +kernel
theorem dX1_init_1 : decode cX1_init 1 = .ok (.invokespecial 3, 3) := by decide +kernel
theorem dX1_init_4 : decode cX1_init 4 = .ok (.aload_n 0, 1) := by decide +kernel
theorem dX1_init_5 : decode cX1_init 5 = .ok (.bipush 8, 2) := by decide +kernel
theorem dX1_init_7 : decode cX1_init 7 = .ok (.newarray .int, 2) := by decide +kernel
theorem dX1_init_9 : decode cX1_init 9 = .ok (.putfield 9, 3) := by decide +kernel
theorem dX1_init_12 : decode cX1_init 12 = .ok (.aload_n 0, 1) := by decide +kernel
theorem dX1_init_13 : decode cX1_init 13 = .ok (.iconst 0, 1) := by decide +kernel
theorem dX1_init_14 : decode cX1_init 14 = .ok (.putfield 15, 3) := by decide +kernel
theorem dX1_init_17 : decode cX1_init 17 = .ok (.aload_n 0, 1) := by decide +kernel
theorem dX1_init_18 : decode cX1_init 18 = .ok (.iconst 0, 1) := by decide +kernel
theorem dX1_init_19 : decode cX1_init 19 = .ok (.putfield 19, 3) := by decide +kernel
theorem dX1_init_22 : decode cX1_init 22 = .ok (.aload_n 0, 1) := by decide +kernel
theorem dX1_init_23 : decode cX1_init 23 = .ok (.iconst 0, 1) := by decide +kernel
theorem dX1_init_24 : decode cX1_init 24 = .ok (.putfield 23, 3) := by decide +kernel
theorem dX1_init_27 : decode cX1_init 27 = .ok (.aload_n 0, 1) := by decide +kernel
theorem dX1_init_28 : decode cX1_init 28 = .ok (.iconst 0, 1) := by decide +kernel
theorem dX1_init_29 : decode cX1_init 29 = .ok (.putfield 26, 3) := by decide +kernel
theorem dX1_init_32 : decode cX1_init 32 = .ok (.aload_n 0, 1) := by decide +kernel
theorem dX1_init_33 : decode cX1_init 33 = .ok (.iconst (-1), 1) := by decide +kernel
theorem dX1_init_34 : decode cX1_init 34 = .ok (.putfield 29, 3) := by decide +kernel
theorem dX1_init_37 : decode cX1_init 37 = .ok (.return_, 1) := by decide +kernel
theorem dX1_copyFrom_0 : decode cX1_copyFrom 0 = .ok (.aload_n 1, 1) := by decide +kernel
theorem dX1_copyFrom_1 : decode cX1_copyFrom 1 = .ok (.getfield 9, 3) := by decide +kernel
theorem dX1_copyFrom_4 : decode cX1_copyFrom 4 = .ok (.iconst 0, 1) := by decide +kernel
theorem dX1_copyFrom_5 : decode cX1_copyFrom 5 = .ok (.aload_n 0, 1) := by decide +kernel
theorem dX1_copyFrom_6 : decode cX1_copyFrom 6 = .ok (.getfield 9, 3) := by decide +kernel
theorem dX1_copyFrom_9 : decode cX1_copyFrom 9 = .ok (.iconst 0, 1) := by decide +kernel
theorem dX1_copyFrom_10 : decode cX1_copyFrom 10 = .ok (.bipush 8, 2) := by decide +kernel
theorem dX1_copyFrom_12 : decode cX1_copyFrom 12 = .ok (.invokestatic 32, 3) := by decide +kernel
theorem dX1_copyFrom_15 : decode cX1_copyFrom 15 = .ok (.aload_n 0, 1) := by decide +kernel
theorem dX1_copyFrom_16 : decode cX1_copyFrom 16 = .ok (.aload_n 1, 1) := by decide +kernel
theorem dX1_copyFrom_17 : decode cX1_copyFrom 17 = .ok (.getfield 15, 3) := by decide +kernel
theorem dX1_copyFrom_20 : decode cX1_copyFrom 20 = .ok (.putfield 15, 3) := by decide +kernel
theorem dX1_copyFrom_23 : decode cX1_copyFrom 23 = .ok (.aload_n 0, 1) := by decide +kernel
theorem dX1_copyFrom_24 : decode cX1_copyFrom 24 = .ok (.aload_n 1, 1) := by decide +kernel
theorem dX1_copyFrom_25 : decode cX1_copyFrom 25 = .ok (.getfield 19, 3) := by decide +kernel
theorem dX1_copyFrom_28 : decode cX1_copyFrom 28 = .ok (.putfield 19, 3) := by decide +kernel
theorem dX1_copyFrom_31 : decode cX1_copyFrom 31 = .ok (.aload_n 0, 1) := by decide +kernel
theorem dX1_copyFrom_32 : decode cX1_copyFrom 32 = .ok (.aload_n 1, 1) := by decide +kernel
theorem dX1_copyFrom_33 : decode cX1_copyFrom 33 = .ok (.getfield 23, 3) := by decide +kernel
theorem dX1_copyFrom_36 : decode cX1_copyFrom 36 = .ok (.putfield 23, 3) := by decide +kernel
theorem dX1_copyFrom_39 : decode cX1_copyFrom 39 = .ok (.aload_n 0, 1) := by decide +kernel
theorem dX1_copyFrom_40 : decode cX1_copyFrom 40 = .ok (.aload_n 1, 1) := by decide +kernel
theorem dX1_copyFrom_41 : decode cX1_copyFrom 41 = .ok (.getfield 26, 3) := by decide +kernel
theorem dX1_copyFrom_44 : decode cX1_copyFrom 44 = .ok (.putfield 26, 3) := by decide +kernel
theorem dX1_copyFrom_47 : decode cX1_copyFrom 47 = .ok (.aload_n 0, 1) := by decide +kernel
theorem dX1_copyFrom_48 : decode cX1_copyFrom 48 = .ok (.aload_n 1, 1) := by decide +kernel
theorem dX1_copyFrom_49 : decode cX1_copyFrom 49 = .ok (.getfield 29, 3) := by decide +kernel
theorem dX1_copyFrom_52 : decode cX1_copyFrom 52 = .ok (.putfield 29, 3) := by decide +kernel
theorem dX1_copyFrom_55 : decode cX1_copyFrom 55 = .ok (.return_, 1) := by decide +kernel
theorem dX1_becomeBatch_0 : decode cX1_becomeBatch 0 = .ok (.aload_n 0, 1) := by decide +kernel
theorem dX1_becomeBatch_1 : decode cX1_becomeBatch 1 = .ok (.iconst 0, 1) := by decide +kernel
theorem dX1_becomeBatch_2 : decode cX1_becomeBatch 2 = .ok (.putfield 15, 3) := by decide +kernel
theorem dX1_becomeBatch_5 : decode cX1_becomeBatch 5 = .ok (.aload_n 0, 1) := by decide +kernel
theorem dX1_becomeBatch_6 : decode cX1_becomeBatch 6 = .ok (.iload_n 1, 1) := by decide +kernel
theorem dX1_becomeBatch_7 : decode cX1_becomeBatch 7 = .ok (.putfield 19, 3) := by decide +kernel
theorem dX1_becomeBatch_10 : decode cX1_becomeBatch 10 = .ok (.aload_n 0, 1) := by decide +kernel
theorem dX1_becomeBatch_11 : decode cX1_becomeBatch 11 = .ok (.iconst 0, 1) := by decide +kernel
theorem dX1_becomeBatch_12 : decode cX1_becomeBatch 12 = .ok (.putfield 26, 3) := by decide +kernel
theorem dX1_becomeBatch_15 : decode cX1_becomeBatch 15 = .ok (.aload_n 0, 1) := by decide +kernel
theorem dX1_becomeBatch_16 : decode cX1_becomeBatch 16 = .ok (.iconst (-1), 1) := by decide +kernel
theorem dX1_becomeBatch_17 : decode cX1_becomeBatch 17 = .ok (.putfield 29, 3) := by decide +kernel
theorem dX1_becomeBatch_20 : decode cX1_becomeBatch 20 = .ok (.return_, 1) := by decide +kernel
theorem dX1_becomeAnswer_0 : decode cX1_becomeAnswer 0 = .ok (.aload_n 0, 1) := by decide +kernel
theorem dX1_becomeAnswer_1 : decode cX1_becomeAnswer 1 = .ok (.iconst 1, 1) := by decide +kernel
theorem dX1_becomeAnswer_2 : decode cX1_becomeAnswer 2 = .ok (.putfield 15, 3) := by decide +kernel
theorem dX1_becomeAnswer_5 : decode cX1_becomeAnswer 5 = .ok (.aload_n 0, 1) := by decide +kernel
theorem dX1_becomeAnswer_6 : decode cX1_becomeAnswer 6 = .ok (.iload_n 1, 1) := by decide +kernel
theorem dX1_becomeAnswer_7 : decode cX1_becomeAnswer 7 = .ok (.putfield 19, 3) := by decide +kernel
theorem dX1_becomeAnswer_10 : decode cX1_becomeAnswer 10 = .ok (.aload_n 0, 1) := by decide +kernel
theorem dX1_becomeAnswer_11 : decode cX1_becomeAnswer 11 = .ok (.iconst 0, 1) := by decide +kernel
theorem dX1_becomeAnswer_12 : decode cX1_becomeAnswer 12 = .ok (.putfield 26, 3) := by decide +kernel
theorem dX1_becomeAnswer_15 : decode cX1_becomeAnswer 15 = .ok (.aload_n 0, 1) := by decide +kernel
theorem dX1_becomeAnswer_16 : decode cX1_becomeAnswer 16 = .ok (.iload_n 2, 1) := by decide +kernel
theorem dX1_becomeAnswer_17 : decode cX1_becomeAnswer 17 = .ok (.putfield 29, 3) := by decide +kernel
theorem dX1_becomeAnswer_20 : decode cX1_becomeAnswer 20 = .ok (.return_, 1) := by decide +kernel
theorem dX1_addRow_0 : decode cX1_addRow 0 = .ok (.aload_n 0, 1) := by decide +kernel
theorem dX1_addRow_1 : decode cX1_addRow 1 = .ok (.getfield 26, 3) := by decide +kernel
theorem dX1_addRow_4 : decode cX1_addRow 4 = .ok (.bipush 8, 2) := by decide +kernel
theorem dX1_addRow_6 : decode cX1_addRow 6 = .ok (.if_icmp .lt 4, 3) := by decide +kernel
theorem dX1_addRow_9 : decode cX1_addRow 9 = .ok (.return_, 1) := by decide +kernel
theorem dX1_addRow_10 : decode cX1_addRow 10 = .ok (.aload_n 0, 1) := by decide +kernel
theorem dX1_addRow_11 : decode cX1_addRow 11 = .ok (.getfield 9, 3) := by decide +kernel
theorem dX1_addRow_14 : decode cX1_addRow 14 = .ok (.aload_n 0, 1) := by decide +kernel
theorem dX1_addRow_15 : decode cX1_addRow 15 = .ok (.getfield 26, 3) := by decide +kernel
theorem dX1_addRow_18 : decode cX1_addRow 18 = .ok (.iload_n 1, 1) := by decide +kernel
theorem dX1_addRow_19 : decode cX1_addRow 19 = .ok (.iastore, 1) := by decide +kernel
theorem dX1_addRow_20 : decode cX1_addRow 20 = .ok (.aload_n 0, 1) := by decide +kernel
theorem dX1_addRow_21 : decode cX1_addRow 21 = .ok (.dup, 1) := by decide +kernel
theorem dX1_addRow_22 : decode cX1_addRow 22 = .ok (.getfield 26, 3) := by decide +kernel
theorem dX1_addRow_25 : decode cX1_addRow 25 = .ok (.iconst 1, 1) := by decide +kernel
theorem dX1_addRow_26 : decode cX1_addRow 26 = .ok (.iadd, 1) := by decide +kernel
theorem dX1_addRow_27 : decode cX1_addRow 27 = .ok (.putfield 26, 3) := by decide +kernel
theorem dX1_addRow_30 : decode cX1_addRow 30 = .ok (.aload_n 0, 1) := by decide +kernel
theorem dX1_addRow_31 : decode cX1_addRow 31 = .ok (.iload_n 2, 1) := by decide +kernel
theorem dX1_addRow_32 : decode cX1_addRow 32 = .ok (.putfield 29, 3) := by decide +kernel
theorem dX1_addRow_35 : decode cX1_addRow 35 = .ok (.return_, 1) := by decide +kernel
theorem dX1_tell_0 : decode cX1_tell 0 = .ok (.iload_n 1, 1) := by decide +kernel
theorem dX1_tell_1 : decode cX1_tell 1 = .ok (.tableswitch 61 0 3 #[31, 44, 49, 56], 31) := by decide +kernel
theorem dX1_tell_32 : decode cX1_tell 32 = .ok (.aload_n 0, 1) := by decide +kernel
theorem dX1_tell_33 : decode cX1_tell 33 = .ok (.getfield 15, 3) := by decide +kernel
theorem dX1_tell_36 : decode cX1_tell 36 = .ok (.ifCond .eq 7, 3) := by decide +kernel
theorem dX1_tell_39 : decode cX1_tell 39 = .ok (.iconst 1, 1) := by decide +kernel
theorem dX1_tell_40 : decode cX1_tell 40 = .ok (.goto 4, 3) := by decide +kernel
theorem dX1_tell_43 : decode cX1_tell 43 = .ok (.iconst 0, 1) := by decide +kernel
theorem dX1_tell_44 : decode cX1_tell 44 = .ok (.ireturn, 1) := by decide +kernel
theorem dX1_tell_45 : decode cX1_tell 45 = .ok (.aload_n 0, 1) := by decide +kernel
theorem dX1_tell_46 : decode cX1_tell 46 = .ok (.getfield 19, 3) := by decide +kernel
theorem dX1_tell_49 : decode cX1_tell 49 = .ok (.ireturn, 1) := by decide +kernel
theorem dX1_tell_50 : decode cX1_tell 50 = .ok (.aload_n 0, 1) := by decide +kernel
theorem dX1_tell_51 : decode cX1_tell 51 = .ok (.getfield 23, 3) := by decide +kernel
theorem dX1_tell_54 : decode cX1_tell 54 = .ok (.iload_n 2, 1) := by decide +kernel
theorem dX1_tell_55 : decode cX1_tell 55 = .ok (.isub, 1) := by decide +kernel
theorem dX1_tell_56 : decode cX1_tell 56 = .ok (.ireturn, 1) := by decide +kernel
theorem dX1_tell_57 : decode cX1_tell 57 = .ok (.aload_n 0, 1) := by decide +kernel
theorem dX1_tell_58 : decode cX1_tell 58 = .ok (.getfield 26, 3) := by decide +kernel
theorem dX1_tell_61 : decode cX1_tell 61 = .ok (.ireturn, 1) := by decide +kernel
theorem dX1_tell_62 : decode cX1_tell 62 = .ok (.aload_n 0, 1) := by decide +kernel
theorem dX1_tell_63 : decode cX1_tell 63 = .ok (.getfield 29, 3) := by decide +kernel
theorem dX1_tell_66 : decode cX1_tell 66 = .ok (.ireturn, 1) := by decide +kernel
theorem dX3_init_0 : decode cX3_init 0 = .ok (.aload_n 0, 1) := by decide +kernel
theorem dX3_init_1 : decode cX3_init 1 = .ok (.invokespecial 3, 3) := by decide +kernel
theorem dX3_init_4 : decode cX3_init 4 = .ok (.aload_n 0, 1) := by decide +kernel
theorem dX3_init_5 : decode cX3_init 5 = .ok (.bipush 21, 2) := by decide +kernel
theorem dX3_init_7 : decode cX3_init 7 = .ok (.newarray .int, 2) := by decide +kernel
theorem dX3_init_9 : decode cX3_init 9 = .ok (.putfield 9, 3) := by decide +kernel
theorem dX3_init_12 : decode cX3_init 12 = .ok (.aload_n 0, 1) := by decide +kernel
theorem dX3_init_13 : decode cX3_init 13 = .ok (.iconst 0, 1) := by decide +kernel
theorem dX3_init_14 : decode cX3_init 14 = .ok (.putfield 15, 3) := by decide +kernel
theorem dX3_init_17 : decode cX3_init 17 = .ok (.aload_n 0, 1) := by decide +kernel
theorem dX3_init_18 : decode cX3_init 18 = .ok (.bipush 15, 2) := by decide +kernel
theorem dX3_init_20 : decode cX3_init 20 = .ok (.putfield 19, 3) := by decide +kernel
theorem dX3_init_23 : decode cX3_init 23 = .ok (.aload_n 0, 1) := by decide +kernel
theorem dX3_init_24 : decode cX3_init 24 = .ok (.iconst (-1), 1) := by decide +kernel
theorem dX3_init_25 : decode cX3_init 25 = .ok (.putfield 22, 3) := by decide +kernel
theorem dX3_init_28 : decode cX3_init 28 = .ok (.aload_n 0, 1) := by decide +kernel
theorem dX3_init_29 : decode cX3_init 29 = .ok (.iconst 0, 1) := by decide +kernel
theorem dX3_init_30 : decode cX3_init 30 = .ok (.putfield 25, 3) := by decide +kernel
theorem dX3_init_33 : decode cX3_init 33 = .ok (.aload_n 0, 1) := by decide +kernel
theorem dX3_init_34 : decode cX3_init 34 = .ok (.iconst 0, 1) := by decide +kernel
theorem dX3_init_35 : decode cX3_init 35 = .ok (.putfield 28, 3) := by decide +kernel
theorem dX3_init_38 : decode cX3_init 38 = .ok (.aload_n 0, 1) := by decide +kernel
theorem dX3_init_39 : decode cX3_init 39 = .ok (.iconst 0, 1) := by decide +kernel
theorem dX3_init_40 : decode cX3_init 40 = .ok (.putfield 31, 3) := by decide +kernel
theorem dX3_init_43 : decode cX3_init 43 = .ok (.aload_n 0, 1) := by decide +kernel
theorem dX3_init_44 : decode cX3_init 44 = .ok (.iconst 0, 1) := by decide +kernel
theorem dX3_init_45 : decode cX3_init 45 = .ok (.putfield 34, 3) := by decide +kernel
theorem dX3_init_48 : decode cX3_init 48 = .ok (.aload_n 0, 1) := by decide +kernel
theorem dX3_init_49 : decode cX3_init 49 = .ok (.iconst 0, 1) := by decide +kernel
theorem dX3_init_50 : decode cX3_init 50 = .ok (.putfield 37, 3) := by decide +kernel
theorem dX3_init_53 : decode cX3_init 53 = .ok (.aload_n 0, 1) := by decide +kernel
theorem dX3_init_54 : decode cX3_init 54 = .ok (.iconst 0, 1) := by decide +kernel
theorem dX3_init_55 : decode cX3_init 55 = .ok (.putfield 40, 3) := by decide +kernel
theorem dX3_init_58 : decode cX3_init 58 = .ok (.aload_n 0, 1) := by decide +kernel
theorem dX3_init_59 : decode cX3_init 59 = .ok (.iconst (-1), 1) := by decide +kernel
theorem dX3_init_60 : decode cX3_init 60 = .ok (.putfield 43, 3) := by decide +kernel
theorem dX3_init_63 : decode cX3_init 63 = .ok (.aload_n 0, 1) := by decide +kernel
theorem dX3_init_64 : decode cX3_init 64 = .ok (.iconst 0, 1) := by decide +kernel
theorem dX3_init_65 : decode cX3_init 65 = .ok (.putfield 46, 3) := by decide +kernel
theorem dX3_init_68 : decode cX3_init 68 = .ok (.aload_n 0, 1) := by decide +kernel
theorem dX3_init_69 : decode cX3_init 69 = .ok (.iconst 0, 1) := by decide +kernel
theorem dX3_init_70 : decode cX3_init 70 = .ok (.putfield 50, 3) := by decide +kernel
theorem dX3_init_73 : decode cX3_init 73 = .ok (.aload_n 0, 1) := by decide +kernel
theorem dX3_init_74 : decode cX3_init 74 = .ok (.iconst (-1), 1) := by decide +kernel
theorem dX3_init_75 : decode cX3_init 75 = .ok (.putfield 53, 3) := by decide +kernel
theorem dX3_init_78 : decode cX3_init 78 = .ok (.return_, 1) := by decide +kernel
theorem dX3_copyFrom_0 : decode cX3_copyFrom 0 = .ok (.aload_n 1, 1) := by decide +kernel
theorem dX3_copyFrom_1 : decode cX3_copyFrom 1 = .ok (.getfield 9, 3) := by decide +kernel
theorem dX3_copyFrom_4 : decode cX3_copyFrom 4 = .ok (.iconst 0, 1) := by decide +kernel
theorem dX3_copyFrom_5 : decode cX3_copyFrom 5 = .ok (.aload_n 0, 1) := by decide +kernel
theorem dX3_copyFrom_6 : decode cX3_copyFrom 6 = .ok (.getfield 9, 3) := by decide +kernel
theorem dX3_copyFrom_9 : decode cX3_copyFrom 9 = .ok (.iconst 0, 1) := by decide +kernel
theorem dX3_copyFrom_10 : decode cX3_copyFrom 10 = .ok (.bipush 21, 2) := by decide +kernel
theorem dX3_copyFrom_12 : decode cX3_copyFrom 12 = .ok (.invokestatic 56, 3) := by decide +kernel
theorem dX3_copyFrom_15 : decode cX3_copyFrom 15 = .ok (.aload_n 0, 1) := by decide +kernel
theorem dX3_copyFrom_16 : decode cX3_copyFrom 16 = .ok (.aload_n 1, 1) := by decide +kernel
theorem dX3_copyFrom_17 : decode cX3_copyFrom 17 = .ok (.getfield 15, 3) := by decide +kernel
theorem dX3_copyFrom_20 : decode cX3_copyFrom 20 = .ok (.putfield 15, 3) := by decide +kernel
theorem dX3_copyFrom_23 : decode cX3_copyFrom 23 = .ok (.aload_n 0, 1) := by decide +kernel
theorem dX3_copyFrom_24 : decode cX3_copyFrom 24 = .ok (.aload_n 1, 1) := by decide +kernel
theorem dX3_copyFrom_25 : decode cX3_copyFrom 25 = .ok (.getfield 19, 3) := by decide +kernel
theorem dX3_copyFrom_28 : decode cX3_copyFrom 28 = .ok (.putfield 19, 3) := by decide +kernel
theorem dX3_copyFrom_31 : decode cX3_copyFrom 31 = .ok (.aload_n 0, 1) := by decide +kernel
theorem dX3_copyFrom_32 : decode cX3_copyFrom 32 = .ok (.aload_n 1, 1) := by decide +kernel
theorem dX3_copyFrom_33 : decode cX3_copyFrom 33 = .ok (.getfield 22, 3) := by decide +kernel
theorem dX3_copyFrom_36 : decode cX3_copyFrom 36 = .ok (.putfield 22, 3) := by decide +kernel
theorem dX3_copyFrom_39 : decode cX3_copyFrom 39 = .ok (.aload_n 0, 1) := by decide +kernel
theorem dX3_copyFrom_40 : decode cX3_copyFrom 40 = .ok (.aload_n 1, 1) := by decide +kernel
theorem dX3_copyFrom_41 : decode cX3_copyFrom 41 = .ok (.getfield 25, 3) := by decide +kernel
theorem dX3_copyFrom_44 : decode cX3_copyFrom 44 = .ok (.putfield 25, 3) := by decide +kernel
theorem dX3_copyFrom_47 : decode cX3_copyFrom 47 = .ok (.aload_n 0, 1) := by decide +kernel
theorem dX3_copyFrom_48 : decode cX3_copyFrom 48 = .ok (.aload_n 1, 1) := by decide +kernel
theorem dX3_copyFrom_49 : decode cX3_copyFrom 49 = .ok (.getfield 28, 3) := by decide +kernel
theorem dX3_copyFrom_52 : decode cX3_copyFrom 52 = .ok (.putfield 28, 3) := by decide +kernel
theorem dX3_copyFrom_55 : decode cX3_copyFrom 55 = .ok (.aload_n 0, 1) := by decide +kernel
theorem dX3_copyFrom_56 : decode cX3_copyFrom 56 = .ok (.aload_n 1, 1) := by decide +kernel
theorem dX3_copyFrom_57 : decode cX3_copyFrom 57 = .ok (.getfield 31, 3) := by decide +kernel
theorem dX3_copyFrom_60 : decode cX3_copyFrom 60 = .ok (.putfield 31, 3) := by decide +kernel
theorem dX3_copyFrom_63 : decode cX3_copyFrom 63 = .ok (.aload_n 0, 1) := by decide +kernel
theorem dX3_copyFrom_64 : decode cX3_copyFrom 64 = .ok (.aload_n 1, 1) := by decide +kernel
theorem dX3_copyFrom_65 : decode cX3_copyFrom 65 = .ok (.getfield 34, 3) := by decide +kernel
theorem dX3_copyFrom_68 : decode cX3_copyFrom 68 = .ok (.putfield 34, 3) := by decide +kernel
theorem dX3_copyFrom_71 : decode cX3_copyFrom 71 = .ok (.aload_n 0, 1) := by decide +kernel
theorem dX3_copyFrom_72 : decode cX3_copyFrom 72 = .ok (.aload_n 1, 1) := by decide +kernel
theorem dX3_copyFrom_73 : decode cX3_copyFrom 73 = .ok (.getfield 37, 3) := by decide +kernel
theorem dX3_copyFrom_76 : decode cX3_copyFrom 76 = .ok (.putfield 37, 3) := by decide +kernel
theorem dX3_copyFrom_79 : decode cX3_copyFrom 79 = .ok (.aload_n 0, 1) := by decide +kernel
theorem dX3_copyFrom_80 : decode cX3_copyFrom 80 = .ok (.aload_n 1, 1) := by decide +kernel
theorem dX3_copyFrom_81 : decode cX3_copyFrom 81 = .ok (.getfield 40, 3) := by decide +kernel
theorem dX3_copyFrom_84 : decode cX3_copyFrom 84 = .ok (.putfield 40, 3) := by decide +kernel
theorem dX3_copyFrom_87 : decode cX3_copyFrom 87 = .ok (.aload_n 0, 1) := by decide +kernel
theorem dX3_copyFrom_88 : decode cX3_copyFrom 88 = .ok (.aload_n 1, 1) := by decide +kernel
theorem dX3_copyFrom_89 : decode cX3_copyFrom 89 = .ok (.getfield 43, 3) := by decide +kernel
theorem dX3_copyFrom_92 : decode cX3_copyFrom 92 = .ok (.putfield 43, 3) := by decide +kernel
theorem dX3_copyFrom_95 : decode cX3_copyFrom 95 = .ok (.aload_n 0, 1) := by decide +kernel
theorem dX3_copyFrom_96 : decode cX3_copyFrom 96 = .ok (.aload_n 1, 1) := by decide +kernel
theorem dX3_copyFrom_97 : decode cX3_copyFrom 97 = .ok (.getfield 46, 3) := by decide +kernel
theorem dX3_copyFrom_100 : decode cX3_copyFrom 100 = .ok (.putfield 46, 3) := by decide +kernel
theorem dX3_copyFrom_103 : decode cX3_copyFrom 103 = .ok (.aload_n 0, 1) := by decide +kernel
theorem dX3_copyFrom_104 : decode cX3_copyFrom 104 = .ok (.aload_n 1, 1) := by decide +kernel
theorem dX3_copyFrom_105 : decode cX3_copyFrom 105 = .ok (.getfield 50, 3) := by decide +kernel
theorem dX3_copyFrom_108 : decode cX3_copyFrom 108 = .ok (.putfield 50, 3) := by decide +kernel
theorem dX3_copyFrom_111 : decode cX3_copyFrom 111 = .ok (.aload_n 0, 1) := by decide +kernel
theorem dX3_copyFrom_112 : decode cX3_copyFrom 112 = .ok (.aload_n 1, 1) := by decide +kernel
theorem dX3_copyFrom_113 : decode cX3_copyFrom 113 = .ok (.getfield 53, 3) := by decide +kernel
theorem dX3_copyFrom_116 : decode cX3_copyFrom 116 = .ok (.putfield 53, 3) := by decide +kernel
theorem dX3_copyFrom_119 : decode cX3_copyFrom 119 = .ok (.return_, 1) := by decide +kernel
theorem dX3_wants_0 : decode cX3_wants 0 = .ok (.aload_n 0, 1) := by decide +kernel
theorem dX3_wants_1 : decode cX3_wants 1 = .ok (.getfield 19, 3) := by decide +kernel
theorem dX3_wants_4 : decode cX3_wants 4 = .ok (.iload_n 1, 1) := by decide +kernel
theorem dX3_wants_5 : decode cX3_wants 5 = .ok (.ishr, 1) := by decide +kernel
theorem dX3_wants_6 : decode cX3_wants 6 = .ok (.iconst 1, 1) := by decide +kernel
theorem dX3_wants_7 : decode cX3_wants 7 = .ok (.iand, 1) := by decide +kernel
theorem dX3_wants_8 : decode cX3_wants 8 = .ok (.iconst 1, 1) := by decide +kernel
theorem dX3_wants_9 : decode cX3_wants 9 = .ok (.if_icmp .ne 7, 3) := by decide +kernel
theorem dX3_wants_12 : decode cX3_wants 12 = .ok (.iconst 1, 1) := by decide +kernel
theorem dX3_wants_13 : decode cX3_wants 13 = .ok (.goto 4, 3) := by decide +kernel
theorem dX3_wants_16 : decode cX3_wants 16 = .ok (.iconst 0, 1) := by decide +kernel
theorem dX3_wants_17 : decode cX3_wants 17 = .ok (.ireturn, 1) := by decide +kernel
theorem dX3_isRepeat_0 : decode cX3_isRepeat 0 = .ok (.iload_n 2, 1) := by decide +kernel
theorem dX3_isRepeat_1 : decode cX3_isRepeat 1 = .ok (.ifCond .eq 17, 3) := by decide +kernel
theorem dX3_isRepeat_4 : decode cX3_isRepeat 4 = .ok (.iload_n 1, 1) := by decide +kernel
theorem dX3_isRepeat_5 : decode cX3_isRepeat 5 = .ok (.aload_n 0, 1) := by decide +kernel
theorem dX3_isRepeat_6 : decode cX3_isRepeat 6 = .ok (.getfield 22, 3) := by decide +kernel
theorem dX3_isRepeat_9 : decode cX3_isRepeat 9 = .ok (.if_icmp .gt 7, 3) := by decide +kernel
theorem dX3_isRepeat_12 : decode cX3_isRepeat 12 = .ok (.iconst 1, 1) := by decide +kernel
theorem dX3_isRepeat_13 : decode cX3_isRepeat 13 = .ok (.goto 4, 3) := by decide +kernel
theorem dX3_isRepeat_16 : decode cX3_isRepeat 16 = .ok (.iconst 0, 1) := by decide +kernel
theorem dX3_isRepeat_17 : decode cX3_isRepeat 17 = .ok (.ireturn, 1) := by decide +kernel
theorem dX3_isRepeat_18 : decode cX3_isRepeat 18 = .ok (.iconst 0, 1) := by decide +kernel
theorem dX3_isRepeat_19 : decode cX3_isRepeat 19 = .ok (.istore_n 3, 1) := by decide +kernel
theorem dX3_isRepeat_20 : decode cX3_isRepeat 20 = .ok (.iload_n 3, 1) := by decide +kernel
theorem dX3_isRepeat_21 : decode cX3_isRepeat 21 = .ok (.aload_n 0, 1) := by decide +kernel
theorem dX3_isRepeat_22 : decode cX3_isRepeat 22 = .ok (.getfield 15, 3) := by decide +kernel
theorem dX3_isRepeat_25 : decode cX3_isRepeat 25 = .ok (.if_icmp .ge 21, 3) := by decide +kernel
theorem dX3_isRepeat_28 : decode cX3_isRepeat 28 = .ok (.aload_n 0, 1) := by decide +kernel
theorem dX3_isRepeat_29 : decode cX3_isRepeat 29 = .ok (.getfield 9, 3) := by decide +kernel
theorem dX3_isRepeat_32 : decode cX3_isRepeat 32 = .ok (.iload_n 3, 1) := by decide +kernel
theorem dX3_isRepeat_33 : decode cX3_isRepeat 33 = .ok (.iaload, 1) := by decide +kernel
theorem dX3_isRepeat_34 : decode cX3_isRepeat 34 = .ok (.iload_n 1, 1) := by decide +kernel
theorem dX3_isRepeat_35 : decode cX3_isRepeat 35 = .ok (.if_icmp .ne 5, 3) := by decide +kernel
theorem dX3_isRepeat_38 : decode cX3_isRepeat 38 = .ok (.iconst 1, 1) := by decide +kernel
theorem dX3_isRepeat_39 : decode cX3_isRepeat 39 = .ok (.ireturn, 1) := by decide +kernel
theorem dX3_isRepeat_40 : decode cX3_isRepeat 40 = .ok (.iinc 3 1, 3) := by decide +kernel
theorem dX3_isRepeat_43 : decode cX3_isRepeat 43 = .ok (.goto (-23), 3) := by decide +kernel
theorem dX3_isRepeat_46 : decode cX3_isRepeat 46 = .ok (.iconst 0, 1) := by decide +kernel
theorem dX3_isRepeat_47 : decode cX3_isRepeat 47 = .ok (.ireturn, 1) := by decide +kernel
theorem dX3_takeEffect_0 : decode cX3_takeEffect 0 = .ok (.aload_n 0, 1) := by decide +kernel
theorem dX3_takeEffect_1 : decode cX3_takeEffect 1 = .ok (.dup, 1) := by decide +kernel
theorem dX3_takeEffect_2 : decode cX3_takeEffect 2 = .ok (.getfield 25, 3) := by decide +kernel
theorem dX3_takeEffect_5 : decode cX3_takeEffect 5 = .ok (.iconst 1, 1) := by decide +kernel
theorem dX3_takeEffect_6 : decode cX3_takeEffect 6 = .ok (.iadd, 1) := by decide +kernel
theorem dX3_takeEffect_7 : decode cX3_takeEffect 7 = .ok (.putfield 25, 3) := by decide +kernel
theorem dX3_takeEffect_10 : decode cX3_takeEffect 10 = .ok (.aload_n 0, 1) := by decide +kernel
theorem dX3_takeEffect_11 : decode cX3_takeEffect 11 = .ok (.dup, 1) := by decide +kernel
theorem dX3_takeEffect_12 : decode cX3_takeEffect 12 = .ok (.getfield 28, 3) := by decide +kernel
theorem dX3_takeEffect_15 : decode cX3_takeEffect 15 = .ok (.iload_n 2, 1) := by decide +kernel
theorem dX3_takeEffect_16 : decode cX3_takeEffect 16 = .ok (.iadd, 1) := by decide +kernel
theorem dX3_takeEffect_17 : decode cX3_takeEffect 17 = .ok (.putfield 28, 3) := by decide +kernel
theorem dX3_takeEffect_20 : decode cX3_takeEffect 20 = .ok (.iload_n 1, 1) := by decide +kernel
theorem dX3_takeEffect_21 : decode cX3_takeEffect 21 = .ok (.aload_n 0, 1) := by decide +kernel
theorem dX3_takeEffect_22 : decode cX3_takeEffect 22 = .ok (.getfield 22, 3) := by decide +kernel
theorem dX3_takeEffect_25 : decode cX3_takeEffect 25 = .ok (.if_icmp .ge 13, 3) := by decide +kernel
theorem dX3_takeEffect_28 : decode cX3_takeEffect 28 = .ok (.aload_n 0, 1) := by decide +kernel
theorem dX3_takeEffect_29 : decode cX3_takeEffect 29 = .ok (.dup, 1) := by decide +kernel
theorem dX3_takeEffect_30 : decode cX3_takeEffect 30 = .ok (.getfield 37, 3) := by decide +kernel
theorem dX3_takeEffect_33 : decode cX3_takeEffect 33 = .ok (.iconst 1, 1) := by decide +kernel
theorem dX3_takeEffect_34 : decode cX3_takeEffect 34 = .ok (.iadd, 1) := by decide +kernel
theorem dX3_takeEffect_35 : decode cX3_takeEffect 35 = .ok (.putfield 37, 3) := by decide +kernel
theorem dX3_takeEffect_38 : decode cX3_takeEffect 38 = .ok (.iload_n 1, 1) := by decide +kernel
theorem dX3_takeEffect_39 : decode cX3_takeEffect 39 = .ok (.aload_n 0, 1) := by decide +kernel
theorem dX3_takeEffect_40 : decode cX3_takeEffect 40 = .ok (.getfield 22, 3) := by decide +kernel
theorem dX3_takeEffect_43 : decode cX3_takeEffect 43 = .ok (.if_icmp .le 8, 3) := by decide +kernel
theorem dX3_takeEffect_46 : decode cX3_takeEffect 46 = .ok (.aload_n 0, 1) := by decide +kernel
theorem dX3_takeEffect_47 : decode cX3_takeEffect 47 = .ok (.iload_n 1, 1) := by decide +kernel
theorem dX3_takeEffect_48 : decode cX3_takeEffect 48 = .ok (.putfield 22, 3) := by decide +kernel
theorem dX3_takeEffect_51 : decode cX3_takeEffect 51 = .ok (.aload_n 0, 1) := by decide +kernel
theorem dX3_takeEffect_52 : decode cX3_takeEffect 52 = .ok (.getfield 15, 3) := by decide +kernel
theorem dX3_takeEffect_55 : decode cX3_takeEffect 55 = .ok (.bipush 20, 2) := by decide +kernel
theorem dX3_takeEffect_57 : decode cX3_takeEffect 57 = .ok (.if_icmp .gt 23, 3) := by decide +kernel
theorem dX3_takeEffect_60 : decode cX3_takeEffect 60 = .ok (.aload_n 0, 1) := by decide +kernel
theorem dX3_takeEffect_61 : decode cX3_takeEffect 61 = .ok (.getfield 9, 3) := by decide +kernel
theorem dX3_takeEffect_64 : decode cX3_takeEffect 64 = .ok (.aload_n 0, 1) := by decide +kernel
theorem dX3_takeEffect_65 : decode cX3_takeEffect 65 = .ok (.getfield 15, 3) := by decide +kernel
theorem dX3_takeEffect_68 : decode cX3_takeEffect 68 = .ok (.iload_n 1, 1) := by decide +kernel
theorem dX3_takeEffect_69 : decode cX3_takeEffect 69 = .ok (.iastore, 1) := by decide +kernel
theorem dX3_takeEffect_70 : decode cX3_takeEffect 70 = .ok (.aload_n 0, 1) := by decide +kernel
theorem dX3_takeEffect_71 : decode cX3_takeEffect 71 = .ok (.dup, 1) := by decide +kernel
theorem dX3_takeEffect_72 : decode cX3_takeEffect 72 = .ok (.getfield 15, 3) := by decide +kernel
theorem dX3_takeEffect_75 : decode cX3_takeEffect 75 = .ok (.iconst 1, 1) := by decide +kernel
theorem dX3_takeEffect_76 : decode cX3_takeEffect 76 = .ok (.iadd, 1) := by decide +kernel
theorem dX3_takeEffect_77 : decode cX3_takeEffect 77 = .ok (.putfield 15, 3) := by decide +kernel
theorem dX3_takeEffect_80 : decode cX3_takeEffect 80 = .ok (.aload_n 0, 1) := by decide +kernel
theorem dX3_takeEffect_81 : decode cX3_takeEffect 81 = .ok (.getfield 15, 3) := by decide +kernel
theorem dX3_takeEffect_84 : decode cX3_takeEffect 84 = .ok (.iload_n 3, 1) := by decide +kernel
theorem dX3_takeEffect_85 : decode cX3_takeEffect 85 = .ok (.if_icmp .le 47, 3) := by decide +kernel
theorem dX3_takeEffect_88 : decode cX3_takeEffect 88 = .ok (.iconst 1, 1) := by decide +kernel
theorem dX3_takeEffect_89 : decode cX3_takeEffect 89 = .ok (.istore 4, 2) := by decide +kernel
theorem dX3_takeEffect_91 : decode cX3_takeEffect 91 = .ok (.iload 4, 2) := by decide +kernel
theorem dX3_takeEffect_93 : decode cX3_takeEffect 93 = .ok (.aload_n 0, 1) := by decide +kernel
theorem dX3_takeEffect_94 : decode cX3_takeEffect 94 = .ok (.getfield 15, 3) := by decide +kernel
theorem dX3_takeEffect_97 : decode cX3_takeEffect 97 = .ok (.if_icmp .ge 25, 3) := by decide +kernel
theorem dX3_takeEffect_100 : decode cX3_takeEffect 100 = .ok (.aload_n 0, 1) := by decide +kernel
theorem dX3_takeEffect_101 : decode cX3_takeEffect 101 = .ok (.getfield 9, 3) := by decide +kernel
theorem dX3_takeEffect_104 : decode cX3_takeEffect 104 = .ok (.iload 4, 2) := by decide +kernel
theorem dX3_takeEffect_106 : decode cX3_takeEffect 106 = .ok (.iconst 1, 1) := by decide +kernel
theorem dX3_takeEffect_107 : decode cX3_takeEffect 107 = .ok (.isub, 1) := by decide +kernel
theorem dX3_takeEffect_108 : decode cX3_takeEffect 108 = .ok (.aload_n 0, 1) := by decide +kernel
theorem dX3_takeEffect_109 : decode cX3_takeEffect 109 = .ok (.getfield 9, 3) := by decide +kernel
theorem dX3_takeEffect_112 : decode cX3_takeEffect 112 = .ok (.iload 4, 2) := by decide +kernel
theorem dX3_takeEffect_114 : decode cX3_takeEffect 114 = .ok (.iaload, 1) := by decide +kernel
theorem dX3_takeEffect_115 : decode cX3_takeEffect 115 = .ok (.iastore, 1) := by decide +kernel
theorem dX3_takeEffect_116 : decode cX3_takeEffect 116 = .ok (.iinc 4 1, 3) := by decide +kernel
theorem dX3_takeEffect_119 : decode cX3_takeEffect 119 = .ok (.goto (-28), 3) := by decide +kernel
theorem dX3_takeEffect_122 : decode cX3_takeEffect 122 = .ok (.aload_n 0, 1) := by decide +kernel
theorem dX3_takeEffect_123 : decode cX3_takeEffect 123 = .ok (.dup, 1) := by decide +kernel
theorem dX3_takeEffect_124 : decode cX3_takeEffect 124 = .ok (.getfield 15, 3) := by decide +kernel
theorem dX3_takeEffect_127 : decode cX3_takeEffect 127 = .ok (.iconst 1, 1) := by decide +kernel
theorem dX3_takeEffect_128 : decode cX3_takeEffect 128 = .ok (.isub, 1) := by decide +kernel
theorem dX3_takeEffect_129 : decode cX3_takeEffect 129 = .ok (.putfield 15, 3) := by decide +kernel
theorem dX3_takeEffect_132 : decode cX3_takeEffect 132 = .ok (.return_, 1) := by decide +kernel
theorem dX3_answerComes_0 : decode cX3_answerComes 0 = .ok (.iload_n 1, 1) := by decide +kernel
theorem dX3_answerComes_1 : decode cX3_answerComes 1 = .ok (.aload_n 0, 1) := by decide +kernel
theorem dX3_answerComes_2 : decode cX3_answerComes 2 = .ok (.getfield 43, 3) := by decide +kernel
theorem dX3_answerComes_5 : decode cX3_answerComes 5 = .ok (.if_icmp .le 8, 3) := by decide +kernel
theorem dX3_answerComes_8 : decode cX3_answerComes 8 = .ok (.aload_n 0, 1) := by decide +kernel
theorem dX3_answerComes_9 : decode cX3_answerComes 9 = .ok (.iload_n 1, 1) := by decide +kernel
theorem dX3_answerComes_10 : decode cX3_answerComes 10 = .ok (.putfield 43, 3) := by decide +kernel
theorem dX3_answerComes_13 : decode cX3_answerComes 13 = .ok (.iload_n 1, 1) := by decide +kernel
theorem dX3_answerComes_14 : decode cX3_answerComes 14 = .ok (.aload_n 0, 1) := by decide +kernel
theorem dX3_answerComes_15 : decode cX3_answerComes 15 = .ok (.getfield 53, 3) := by decide +kernel
theorem dX3_answerComes_18 : decode cX3_answerComes 18 = .ok (.if_icmp .lt 8, 3) := by decide +kernel
theorem dX3_answerComes_21 : decode cX3_answerComes 21 = .ok (.aload_n 0, 1) := by decide +kernel
theorem dX3_answerComes_22 : decode cX3_answerComes 22 = .ok (.iconst 0, 1) := by decide +kernel
theorem dX3_answerComes_23 : decode cX3_answerComes 23 = .ok (.putfield 46, 3) := by decide +kernel
theorem dX3_answerComes_26 : decode cX3_answerComes 26 = .ok (.return_, 1) := by decide +kernel
theorem dX3_tell_0 : decode cX3_tell 0 = .ok (.iload_n 1, 1) := by decide +kernel
theorem dX3_tell_1 : decode cX3_tell 1 = .ok (.tableswitch 113 0 9 #[55, 60, 65, 70, 75, 80, 85, 90, 95, 100], 55) := by decide +kernel
theorem dX3_tell_56 : decode cX3_tell 56 = .ok (.aload_n 0, 1) := by decide +kernel
theorem dX3_tell_57 : decode cX3_tell 57 = .ok (.getfield 19, 3) := by decide +kernel
theorem dX3_tell_60 : decode cX3_tell 60 = .ok (.ireturn, 1) := by decide +kernel
theorem dX3_tell_61 : decode cX3_tell 61 = .ok (.aload_n 0, 1) := by decide +kernel
theorem dX3_tell_62 : decode cX3_tell 62 = .ok (.getfield 22, 3) := by decide +kernel
theorem dX3_tell_65 : decode cX3_tell 65 = .ok (.ireturn, 1) := by decide +kernel
theorem dX3_tell_66 : decode cX3_tell 66 = .ok (.aload_n 0, 1) := by decide +kernel
theorem dX3_tell_67 : decode cX3_tell 67 = .ok (.getfield 15, 3) := by decide +kernel
theorem dX3_tell_70 : decode cX3_tell 70 = .ok (.ireturn, 1) := by decide +kernel
theorem dX3_tell_71 : decode cX3_tell 71 = .ok (.aload_n 0, 1) := by decide +kernel
theorem dX3_tell_72 : decode cX3_tell 72 = .ok (.getfield 25, 3) := by decide +kernel
theorem dX3_tell_75 : decode cX3_tell 75 = .ok (.ireturn, 1) := by decide +kernel
theorem dX3_tell_76 : decode cX3_tell 76 = .ok (.aload_n 0, 1) := by decide +kernel
theorem dX3_tell_77 : decode cX3_tell 77 = .ok (.getfield 28, 3) := by decide +kernel
theorem dX3_tell_80 : decode cX3_tell 80 = .ok (.ireturn, 1) := by decide +kernel
theorem dX3_tell_81 : decode cX3_tell 81 = .ok (.aload_n 0, 1) := by decide +kernel
theorem dX3_tell_82 : decode cX3_tell 82 = .ok (.getfield 31, 3) := by decide +kernel
theorem dX3_tell_85 : decode cX3_tell 85 = .ok (.ireturn, 1) := by decide +kernel
theorem dX3_tell_86 : decode cX3_tell 86 = .ok (.aload_n 0, 1) := by decide +kernel
theorem dX3_tell_87 : decode cX3_tell 87 = .ok (.getfield 34, 3) := by decide +kernel
theorem dX3_tell_90 : decode cX3_tell 90 = .ok (.ireturn, 1) := by decide +kernel
theorem dX3_tell_91 : decode cX3_tell 91 = .ok (.aload_n 0, 1) := by decide +kernel
theorem dX3_tell_92 : decode cX3_tell 92 = .ok (.getfield 37, 3) := by decide +kernel
theorem dX3_tell_95 : decode cX3_tell 95 = .ok (.ireturn, 1) := by decide +kernel
theorem dX3_tell_96 : decode cX3_tell 96 = .ok (.aload_n 0, 1) := by decide +kernel
theorem dX3_tell_97 : decode cX3_tell 97 = .ok (.getfield 43, 3) := by decide +kernel
theorem dX3_tell_100 : decode cX3_tell 100 = .ok (.ireturn, 1) := by decide +kernel
theorem dX3_tell_101 : decode cX3_tell 101 = .ok (.aload_n 0, 1) := by decide +kernel
theorem dX3_tell_102 : decode cX3_tell 102 = .ok (.getfield 46, 3) := by decide +kernel
theorem dX3_tell_105 : decode cX3_tell 105 = .ok (.ifCond .eq 7, 3) := by decide +kernel
theorem dX3_tell_108 : decode cX3_tell 108 = .ok (.iconst 1, 1) := by decide +kernel
theorem dX3_tell_109 : decode cX3_tell 109 = .ok (.goto 4, 3) := by decide +kernel
theorem dX3_tell_112 : decode cX3_tell 112 = .ok (.iconst 0, 1) := by decide +kernel
theorem dX3_tell_113 : decode cX3_tell 113 = .ok (.ireturn, 1) := by decide +kernel
theorem dX3_tell_114 : decode cX3_tell 114 = .ok (.aload_n 0, 1) := by decide +kernel
theorem dX3_tell_115 : decode cX3_tell 115 = .ok (.getfield 40, 3) := by decide +kernel
theorem dX3_tell_118 : decode cX3_tell 118 = .ok (.ireturn, 1) := by decide +kernel
theorem dX4_init_0 : decode cX4_init 0 = .ok (.aload_n 0, 1) := by decide +kernel
theorem dX4_init_1 : decode cX4_init 1 = .ok (.invokespecial 3, 3) := by decide +kernel
theorem dX4_init_4 : decode cX4_init 4 = .ok (.aload_n 0, 1) := by decide +kernel
theorem dX4_init_5 : decode cX4_init 5 = .ok (.sipush 200, 3) := by decide +kernel
theorem dX4_init_8 : decode cX4_init 8 = .ok (.newarray .int, 2) := by decide +kernel
theorem dX4_init_10 : decode cX4_init 10 = .ok (.putfield 9, 3) := by decide +kernel
theorem dX4_init_13 : decode cX4_init 13 = .ok (.aload_n 0, 1) := by decide +kernel
theorem dX4_init_14 : decode cX4_init 14 = .ok (.sipush 200, 3) := by decide +kernel
theorem dX4_init_17 : decode cX4_init 17 = .ok (.newarray .int, 2) := by decide +kernel
theorem dX4_init_19 : decode cX4_init 19 = .ok (.putfield 15, 3) := by decide +kernel
theorem dX4_init_22 : decode cX4_init 22 = .ok (.aload_n 0, 1) := by decide +kernel
theorem dX4_init_23 : decode cX4_init 23 = .ok (.sipush 200, 3) := by decide +kernel
theorem dX4_init_26 : decode cX4_init 26 = .ok (.newarray .int, 2) := by decide +kernel
theorem dX4_init_28 : decode cX4_init 28 = .ok (.putfield 18, 3) := by decide +kernel
theorem dX4_init_31 : decode cX4_init 31 = .ok (.aload_n 0, 1) := by decide +kernel
theorem dX4_init_32 : decode cX4_init 32 = .ok (.sipush 200, 3) := by decide +kernel
theorem dX4_init_35 : decode cX4_init 35 = .ok (.newarray .int, 2) := by decide +kernel
theorem dX4_init_37 : decode cX4_init 37 = .ok (.putfield 21, 3) := by decide +kernel
theorem dX4_init_40 : decode cX4_init 40 = .ok (.aload_n 0, 1) := by decide +kernel
theorem dX4_init_41 : decode cX4_init 41 = .ok (.sipush 200, 3) := by decide +kernel
theorem dX4_init_44 : decode cX4_init 44 = .ok (.newarray .int, 2) := by decide +kernel
theorem dX4_init_46 : decode cX4_init 46 = .ok (.putfield 24, 3) := by decide +kernel
theorem dX4_init_49 : decode cX4_init 49 = .ok (.aload_n 0, 1) := by decide +kernel
theorem dX4_init_50 : decode cX4_init 50 = .ok (.sipush 200, 3) := by decide +kernel
theorem dX4_init_53 : decode cX4_init 53 = .ok (.newarray .int, 2) := by decide +kernel
theorem dX4_init_55 : decode cX4_init 55 = .ok (.putfield 27, 3) := by decide +kernel
theorem dX4_init_58 : decode cX4_init 58 = .ok (.aload_n 0, 1) := by decide +kernel
theorem dX4_init_59 : decode cX4_init 59 = .ok (.bipush 60, 2) := by decide +kernel
theorem dX4_init_61 : decode cX4_init 61 = .ok (.newarray .int, 2) := by decide +kernel
theorem dX4_init_63 : decode cX4_init 63 = .ok (.putfield 30, 3) := by decide +kernel
theorem dX4_init_66 : decode cX4_init 66 = .ok (.aload_n 0, 1) := by decide +kernel
theorem dX4_init_67 : decode cX4_init 67 = .ok (.iconst 0, 1) := by decide +kernel
theorem dX4_init_68 : decode cX4_init 68 = .ok (.putfield 33, 3) := by decide +kernel
theorem dX4_init_71 : decode cX4_init 71 = .ok (.aload_n 0, 1) := by decide +kernel
theorem dX4_init_72 : decode cX4_init 72 = .ok (.iconst 0, 1) := by decide +kernel
theorem dX4_init_73 : decode cX4_init 73 = .ok (.putfield 37, 3) := by decide +kernel
theorem dX4_init_76 : decode cX4_init 76 = .ok (.aload_n 0, 1) := by decide +kernel
theorem dX4_init_77 : decode cX4_init 77 = .ok (.iconst 0, 1) := by decide +kernel
theorem dX4_init_78 : decode cX4_init 78 = .ok (.putfield 40, 3) := by decide +kernel
theorem dX4_init_81 : decode cX4_init 81 = .ok (.return_, 1) := by decide +kernel
theorem dX4_copyFrom_0 : decode cX4_copyFrom 0 = .ok (.aload_n 1, 1) := by decide +kernel
theorem dX4_copyFrom_1 : decode cX4_copyFrom 1 = .ok (.getfield 9, 3) := by decide +kernel
theorem dX4_copyFrom_4 : decode cX4_copyFrom 4 = .ok (.iconst 0, 1) := by decide +kernel
theorem dX4_copyFrom_5 : decode cX4_copyFrom 5 = .ok (.aload_n 0, 1) := by decide +kernel
theorem dX4_copyFrom_6 : decode cX4_copyFrom 6 = .ok (.getfield 9, 3) := by decide +kernel
theorem dX4_copyFrom_9 : decode cX4_copyFrom 9 = .ok (.iconst 0, 1) := by decide +kernel
theorem dX4_copyFrom_10 : decode cX4_copyFrom 10 = .ok (.aload_n 1, 1) := by decide +kernel
theorem dX4_copyFrom_11 : decode cX4_copyFrom 11 = .ok (.getfield 33, 3) := by decide +kernel
theorem dX4_copyFrom_14 : decode cX4_copyFrom 14 = .ok (.invokestatic 43, 3) := by decide +kernel
theorem dX4_copyFrom_17 : decode cX4_copyFrom 17 = .ok (.aload_n 1, 1) := by decide +kernel
theorem dX4_copyFrom_18 : decode cX4_copyFrom 18 = .ok (.getfield 15, 3) := by decide +kernel
theorem dX4_copyFrom_21 : decode cX4_copyFrom 21 = .ok (.iconst 0, 1) := by decide +kernel
theorem dX4_copyFrom_22 : decode cX4_copyFrom 22 = .ok (.aload_n 0, 1) := by decide +kernel
theorem dX4_copyFrom_23 : decode cX4_copyFrom 23 = .ok (.getfield 15, 3) := by decide +kernel
theorem dX4_copyFrom_26 : decode cX4_copyFrom 26 = .ok (.iconst 0, 1) := by decide +kernel
theorem dX4_copyFrom_27 : decode cX4_copyFrom 27 = .ok (.aload_n 1, 1) := by decide +kernel
theorem dX4_copyFrom_28 : decode cX4_copyFrom 28 = .ok (.getfield 33, 3) := by decide +kernel
theorem dX4_copyFrom_31 : decode cX4_copyFrom 31 = .ok (.invokestatic 43, 3) := by decide +kernel
theorem dX4_copyFrom_34 : decode cX4_copyFrom 34 = .ok (.aload_n 1, 1) := by decide +kernel
theorem dX4_copyFrom_35 : decode cX4_copyFrom 35 = .ok (.getfield 18, 3) := by decide +kernel
theorem dX4_copyFrom_38 : decode cX4_copyFrom 38 = .ok (.iconst 0, 1) := by decide +kernel
theorem dX4_copyFrom_39 : decode cX4_copyFrom 39 = .ok (.aload_n 0, 1) := by decide +kernel
theorem dX4_copyFrom_40 : decode cX4_copyFrom 40 = .ok (.getfield 18, 3) := by decide +kernel
theorem dX4_copyFrom_43 : decode cX4_copyFrom 43 = .ok (.iconst 0, 1) := by decide +kernel
theorem dX4_copyFrom_44 : decode cX4_copyFrom 44 = .ok (.aload_n 1, 1) := by decide +kernel
theorem dX4_copyFrom_45 : decode cX4_copyFrom 45 = .ok (.getfield 33, 3) := by decide +kernel
theorem dX4_copyFrom_48 : decode cX4_copyFrom 48 = .ok (.invokestatic 43, 3) := by decide +kernel
theorem dX4_copyFrom_51 : decode cX4_copyFrom 51 = .ok (.aload_n 1, 1) := by decide +kernel
theorem dX4_copyFrom_52 : decode cX4_copyFrom 52 = .ok (.getfield 21, 3) := by decide +kernel
theorem dX4_copyFrom_55 : decode cX4_copyFrom 55 = .ok (.iconst 0, 1) := by decide +kernel
theorem dX4_copyFrom_56 : decode cX4_copyFrom 56 = .ok (.aload_n 0, 1) := by decide +kernel
theorem dX4_copyFrom_57 : decode cX4_copyFrom 57 = .ok (.getfield 21, 3) := by decide +kernel
theorem dX4_copyFrom_60 : decode cX4_copyFrom 60 = .ok (.iconst 0, 1) := by decide +kernel
theorem dX4_copyFrom_61 : decode cX4_copyFrom 61 = .ok (.aload_n 1, 1) := by decide +kernel
theorem dX4_copyFrom_62 : decode cX4_copyFrom 62 = .ok (.getfield 33, 3) := by decide +kernel
theorem dX4_copyFrom_65 : decode cX4_copyFrom 65 = .ok (.invokestatic 43, 3) := by decide +kernel
theorem dX4_copyFrom_68 : decode cX4_copyFrom 68 = .ok (.aload_n 1, 1) := by decide +kernel
theorem dX4_copyFrom_69 : decode cX4_copyFrom 69 = .ok (.getfield 24, 3) := by decide +kernel
theorem dX4_copyFrom_72 : decode cX4_copyFrom 72 = .ok (.iconst 0, 1) := by decide +kernel
theorem dX4_copyFrom_73 : decode cX4_copyFrom 73 = .ok (.aload_n 0, 1) := by decide +kernel
theorem dX4_copyFrom_74 : decode cX4_copyFrom 74 = .ok (.getfield 24, 3) := by decide +kernel
theorem dX4_copyFrom_77 : decode cX4_copyFrom 77 = .ok (.iconst 0, 1) := by decide +kernel
theorem dX4_copyFrom_78 : decode cX4_copyFrom 78 = .ok (.aload_n 1, 1) := by decide +kernel
theorem dX4_copyFrom_79 : decode cX4_copyFrom 79 = .ok (.getfield 33, 3) := by decide +kernel
theorem dX4_copyFrom_82 : decode cX4_copyFrom 82 = .ok (.invokestatic 43, 3) := by decide +kernel
theorem dX4_copyFrom_85 : decode cX4_copyFrom 85 = .ok (.aload_n 1, 1) := by decide +kernel
theorem dX4_copyFrom_86 : decode cX4_copyFrom 86 = .ok (.getfield 27, 3) := by decide +kernel
theorem dX4_copyFrom_89 : decode cX4_copyFrom 89 = .ok (.iconst 0, 1) := by decide +kernel
theorem dX4_copyFrom_90 : decode cX4_copyFrom 90 = .ok (.aload_n 0, 1) := by decide +kernel
theorem dX4_copyFrom_91 : decode cX4_copyFrom 91 = .ok (.getfield 27, 3) := by decide +kernel
theorem dX4_copyFrom_94 : decode cX4_copyFrom 94 = .ok (.iconst 0, 1) := by decide +kernel
theorem dX4_copyFrom_95 : decode cX4_copyFrom 95 = .ok (.aload_n 1, 1) := by decide +kernel
theorem dX4_copyFrom_96 : decode cX4_copyFrom 96 = .ok (.getfield 33, 3) := by decide +kernel
theorem dX4_copyFrom_99 : decode cX4_copyFrom 99 = .ok (.invokestatic 43, 3) := by decide +kernel
theorem dX4_copyFrom_102 : decode cX4_copyFrom 102 = .ok (.aload_n 1, 1) := by decide +kernel
theorem dX4_copyFrom_103 : decode cX4_copyFrom 103 = .ok (.getfield 30, 3) := by decide +kernel
theorem dX4_copyFrom_106 : decode cX4_copyFrom 106 = .ok (.iconst 0, 1) := by decide +kernel
theorem dX4_copyFrom_107 : decode cX4_copyFrom 107 = .ok (.aload_n 0, 1) := by decide +kernel
theorem dX4_copyFrom_108 : decode cX4_copyFrom 108 = .ok (.getfield 30, 3) := by decide +kernel
theorem dX4_copyFrom_111 : decode cX4_copyFrom 111 = .ok (.iconst 0, 1) := by decide +kernel
theorem dX4_copyFrom_112 : decode cX4_copyFrom 112 = .ok (.aload_n 1, 1) := by decide +kernel
theorem dX4_copyFrom_113 : decode cX4_copyFrom 113 = .ok (.getfield 37, 3) := by decide +kernel
theorem dX4_copyFrom_116 : decode cX4_copyFrom 116 = .ok (.invokestatic 43, 3) := by decide +kernel
theorem dX4_copyFrom_119 : decode cX4_copyFrom 119 = .ok (.aload_n 0, 1) := by decide +kernel
theorem dX4_copyFrom_120 : decode cX4_copyFrom 120 = .ok (.aload_n 1, 1) := by decide +kernel
theorem dX4_copyFrom_121 : decode cX4_copyFrom 121 = .ok (.getfield 33, 3) := by decide +kernel
theorem dX4_copyFrom_124 : decode cX4_copyFrom 124 = .ok (.putfield 33, 3) := by decide +kernel
theorem dX4_copyFrom_127 : decode cX4_copyFrom 127 = .ok (.aload_n 0, 1) := by decide +kernel
theorem dX4_copyFrom_128 : decode cX4_copyFrom 128 = .ok (.aload_n 1, 1) := by decide +kernel
theorem dX4_copyFrom_129 : decode cX4_copyFrom 129 = .ok (.getfield 37, 3) := by decide +kernel
theorem dX4_copyFrom_132 : decode cX4_copyFrom 132 = .ok (.putfield 37, 3) := by decide +kernel
theorem dX4_copyFrom_135 : decode cX4_copyFrom 135 = .ok (.aload_n 0, 1) := by decide +kernel
theorem dX4_copyFrom_136 : decode cX4_copyFrom 136 = .ok (.aload_n 1, 1) := by decide +kernel
theorem dX4_copyFrom_137 : decode cX4_copyFrom 137 = .ok (.getfield 40, 3) := by decide +kernel
theorem dX4_copyFrom_140 : decode cX4_copyFrom 140 = .ok (.putfield 40, 3) := by decide +kernel
theorem dX4_copyFrom_143 : decode cX4_copyFrom 143 = .ok (.return_, 1) := by decide +kernel
theorem dX4_addRow_0 : decode cX4_addRow 0 = .ok (.aload_n 0, 1) := by decide +kernel
theorem dX4_addRow_1 : decode cX4_addRow 1 = .ok (.getfield 33, 3) := by decide +kernel
theorem dX4_addRow_4 : decode cX4_addRow 4 = .ok (.sipush 200, 3) := by decide +kernel
theorem dX4_addRow_7 : decode cX4_addRow 7 = .ok (.if_icmp .ge 12, 3) := by decide +kernel
theorem dX4_addRow_10 : decode cX4_addRow 10 = .ok (.aload_n 0, 1) := by decide +kernel
theorem dX4_addRow_11 : decode cX4_addRow 11 = .ok (.getfield 37, 3) := by decide +kernel
theorem dX4_addRow_14 : decode cX4_addRow 14 = .ok (.bipush 60, 2) := by decide +kernel
theorem dX4_addRow_16 : decode cX4_addRow 16 = .ok (.if_icmp .lt 4, 3) := by decide +kernel
theorem dX4_addRow_19 : decode cX4_addRow 19 = .ok (.return_, 1) := by decide +kernel
theorem dX4_addRow_20 : decode cX4_addRow 20 = .ok (.aload_n 0, 1) := by decide +kernel
theorem dX4_addRow_21 : decode cX4_addRow 21 = .ok (.getfield 9, 3) := by decide +kernel
theorem dX4_addRow_24 : decode cX4_addRow 24 = .ok (.aload_n 0, 1) := by decide +kernel
theorem dX4_addRow_25 : decode cX4_addRow 25 = .ok (.getfield 33, 3) := by decide +kernel
theorem dX4_addRow_28 : decode cX4_addRow 28 = .ok (.iload_n 1, 1) := by decide +kernel
theorem dX4_addRow_29 : decode cX4_addRow 29 = .ok (.iastore, 1) := by decide +kernel
theorem dX4_addRow_30 : decode cX4_addRow 30 = .ok (.aload_n 0, 1) := by decide +kernel
theorem dX4_addRow_31 : decode cX4_addRow 31 = .ok (.getfield 15, 3) := by decide +kernel
theorem dX4_addRow_34 : decode cX4_addRow 34 = .ok (.aload_n 0, 1) := by decide +kernel
theorem dX4_addRow_35 : decode cX4_addRow 35 = .ok (.getfield 33, 3) := by decide +kernel
theorem dX4_addRow_38 : decode cX4_addRow 38 = .ok (.iload_n 2, 1) := by decide +kernel
theorem dX4_addRow_39 : decode cX4_addRow 39 = .ok (.iastore, 1) := by decide +kernel
theorem dX4_addRow_40 : decode cX4_addRow 40 = .ok (.aload_n 0, 1) := by decide +kernel
theorem dX4_addRow_41 : decode cX4_addRow 41 = .ok (.getfield 18, 3) := by decide +kernel
theorem dX4_addRow_44 : decode cX4_addRow 44 = .ok (.aload_n 0, 1) := by decide +kernel
theorem dX4_addRow_45 : decode cX4_addRow 45 = .ok (.getfield 33, 3) := by decide +kernel
theorem dX4_addRow_48 : decode cX4_addRow 48 = .ok (.iload_n 3, 1) := by decide +kernel
theorem dX4_addRow_49 : decode cX4_addRow 49 = .ok (.iastore, 1) := by decide +kernel
theorem dX4_addRow_50 : decode cX4_addRow 50 = .ok (.aload_n 0, 1) := by decide +kernel
theorem dX4_addRow_51 : decode cX4_addRow 51 = .ok (.getfield 21, 3) := by decide +kernel
theorem dX4_addRow_54 : decode cX4_addRow 54 = .ok (.aload_n 0, 1) := by decide +kernel
theorem dX4_addRow_55 : decode cX4_addRow 55 = .ok (.getfield 33, 3) := by decide +kernel
theorem dX4_addRow_58 : decode cX4_addRow 58 = .ok (.iload 4, 2) := by decide +kernel
theorem dX4_addRow_60 : decode cX4_addRow 60 = .ok (.iastore, 1) := by decide +kernel
theorem dX4_addRow_61 : decode cX4_addRow 61 = .ok (.aload_n 0, 1) := by decide +kernel
theorem dX4_addRow_62 : decode cX4_addRow 62 = .ok (.getfield 24, 3) := by decide +kernel
theorem dX4_addRow_65 : decode cX4_addRow 65 = .ok (.aload_n 0, 1) := by decide +kernel
theorem dX4_addRow_66 : decode cX4_addRow 66 = .ok (.getfield 33, 3) := by decide +kernel
theorem dX4_addRow_69 : decode cX4_addRow 69 = .ok (.iconst 0, 1) := by decide +kernel
theorem dX4_addRow_70 : decode cX4_addRow 70 = .ok (.iastore, 1) := by decide +kernel
theorem dX4_addRow_71 : decode cX4_addRow 71 = .ok (.aload_n 0, 1) := by decide +kernel
theorem dX4_addRow_72 : decode cX4_addRow 72 = .ok (.getfield 27, 3) := by decide +kernel
theorem dX4_addRow_75 : decode cX4_addRow 75 = .ok (.aload_n 0, 1) := by decide +kernel
theorem dX4_addRow_76 : decode cX4_addRow 76 = .ok (.getfield 33, 3) := by decide +kernel
theorem dX4_addRow_79 : decode cX4_addRow 79 = .ok (.iconst 0, 1) := by decide +kernel
theorem dX4_addRow_80 : decode cX4_addRow 80 = .ok (.iastore, 1) := by decide +kernel
theorem dX4_addRow_81 : decode cX4_addRow 81 = .ok (.aload_n 0, 1) := by decide +kernel
theorem dX4_addRow_82 : decode cX4_addRow 82 = .ok (.getfield 37, 3) := by decide +kernel
theorem dX4_addRow_85 : decode cX4_addRow 85 = .ok (.istore 5, 2) := by decide +kernel
theorem dX4_addRow_87 : decode cX4_addRow 87 = .ok (.iload 5, 2) := by decide +kernel
theorem dX4_addRow_89 : decode cX4_addRow 89 = .ok (.ifCond .le 43, 3) := by decide +kernel
theorem dX4_addRow_92 : decode cX4_addRow 92 = .ok (.aload_n 0, 1) := by decide +kernel
theorem dX4_addRow_93 : decode cX4_addRow 93 = .ok (.getfield 9, 3) := by decide +kernel
theorem dX4_addRow_96 : decode cX4_addRow 96 = .ok (.aload_n 0, 1) := by decide +kernel
theorem dX4_addRow_97 : decode cX4_addRow 97 = .ok (.getfield 30, 3) := by decide +kernel
theorem dX4_addRow_100 : decode cX4_addRow 100 = .ok (.iload 5, 2) := by decide +kernel
theorem dX4_addRow_102 : decode cX4_addRow 102 = .ok (.iconst 1, 1) := by decide +kernel
theorem dX4_addRow_103 : decode cX4_addRow 103 = .ok (.isub, 1) := by decide +kernel
theorem dX4_addRow_104 : decode cX4_addRow 104 = .ok (.iaload, 1) := by decide +kernel
theorem dX4_addRow_105 : decode cX4_addRow 105 = .ok (.iaload, 1) := by decide +kernel
theorem dX4_addRow_106 : decode cX4_addRow 106 = .ok (.iload_n 1, 1) := by decide +kernel
theorem dX4_addRow_107 : decode cX4_addRow 107 = .ok (.if_icmp .le 25, 3) := by decide +kernel
theorem dX4_addRow_110 : decode cX4_addRow 110 = .ok (.aload_n 0, 1) := by decide +kernel
theorem dX4_addRow_111 : decode cX4_addRow 111 = .ok (.getfield 30, 3) := by decide +kernel
theorem dX4_addRow_114 : decode cX4_addRow 114 = .ok (.iload 5, 2) := by decide +kernel
theorem dX4_addRow_116 : decode cX4_addRow 116 = .ok (.aload_n 0, 1) := by decide +kernel
theorem dX4_addRow_117 : decode cX4_addRow 117 = .ok (.getfield 30, 3) := by decide +kernel
theorem dX4_addRow_120 : decode cX4_addRow 120 = .ok (.iload 5, 2) := by decide +kernel
theorem dX4_addRow_122 : decode cX4_addRow 122 = .ok (.iconst 1, 1) := by decide +kernel
theorem dX4_addRow_123 : decode cX4_addRow 123 = .ok (.isub, 1) := by decide +kernel
theorem dX4_addRow_124 : decode cX4_addRow 124 = .ok (.iaload, 1) := by decide +kernel
theorem dX4_addRow_125 : decode cX4_addRow 125 = .ok (.iastore, 1) := by decide +kernel
theorem dX4_addRow_126 : decode cX4_addRow 126 = .ok (.iinc 5 (-1), 3) := by decide +kernel
theorem dX4_addRow_129 : decode cX4_addRow 129 = .ok (.goto (-42), 3) := by decide +kernel
theorem dX4_addRow_132 : decode cX4_addRow 132 = .ok (.aload_n 0, 1) := by decide +kernel
theorem dX4_addRow_133 : decode cX4_addRow 133 = .ok (.getfield 30, 3) := by decide +kernel
theorem dX4_addRow_136 : decode cX4_addRow 136 = .ok (.iload 5, 2) := by decide +kernel
theorem dX4_addRow_138 : decode cX4_addRow 138 = .ok (.aload_n 0, 1) := by decide +kernel
theorem dX4_addRow_139 : decode cX4_addRow 139 = .ok (.getfield 33, 3) := by decide +kernel
theorem dX4_addRow_142 : decode cX4_addRow 142 = .ok (.iastore, 1) := by decide +kernel
theorem dX4_addRow_143 : decode cX4_addRow 143 = .ok (.aload_n 0, 1) := by decide +kernel
theorem dX4_addRow_144 : decode cX4_addRow 144 = .ok (.dup, 1) := by decide +kernel
theorem dX4_addRow_145 : decode cX4_addRow 145 = .ok (.getfield 37, 3) := by decide +kernel
theorem dX4_addRow_148 : decode cX4_addRow 148 = .ok (.iconst 1, 1) := by decide +kernel
theorem dX4_addRow_149 : decode cX4_addRow 149 = .ok (.iadd, 1) := by decide +kernel
theorem dX4_addRow_150 : decode cX4_addRow 150 = .ok (.putfield 37, 3) := by decide +kernel
theorem dX4_addRow_153 : decode cX4_addRow 153 = .ok (.aload_n 0, 1) := by decide +kernel
theorem dX4_addRow_154 : decode cX4_addRow 154 = .ok (.dup, 1) := by decide +kernel
theorem dX4_addRow_155 : decode cX4_addRow 155 = .ok (.getfield 33, 3) := by decide +kernel
theorem dX4_addRow_158 : decode cX4_addRow 158 = .ok (.iconst 1, 1) := by decide +kernel
theorem dX4_addRow_159 : decode cX4_addRow 159 = .ok (.iadd, 1) := by decide +kernel
theorem dX4_addRow_160 : decode cX4_addRow 160 = .ok (.putfield 33, 3) := by decide +kernel
theorem dX4_addRow_163 : decode cX4_addRow 163 = .ok (.return_, 1) := by decide +kernel
theorem dX6_init_0 : decode cX6_init 0 = .ok (.aload_n 0, 1) := by decide +kernel
theorem dX6_init_1 : decode cX6_init 1 = .ok (.invokespecial 3, 3) := by decide +kernel
theorem dX6_init_4 : decode cX6_init 4 = .ok (.aload_n 0, 1) := by decide +kernel
theorem dX6_init_5 : decode cX6_init 5 = .ok (.bipush 6, 2) := by decide +kernel
theorem dX6_init_7 : decode cX6_init 7 = .ok (.newarray .int, 2) := by decide +kernel
theorem dX6_init_9 : decode cX6_init 9 = .ok (.putfield 9, 3) := by decide +kernel
theorem dX6_init_12 : decode cX6_init 12 = .ok (.aload_n 0, 1) := by decide +kernel
theorem dX6_init_13 : decode cX6_init 13 = .ok (.bipush 6, 2) := by decide +kernel
theorem dX6_init_15 : decode cX6_init 15 = .ok (.newarray .int, 2) := by decide +kernel
theorem dX6_init_17 : decode cX6_init 17 = .ok (.putfield 15, 3) := by decide +kernel
theorem dX6_init_20 : decode cX6_init 20 = .ok (.aload_n 0, 1) := by decide +kernel
theorem dX6_init_21 : decode cX6_init 21 = .ok (.bipush 6, 2) := by decide +kernel
theorem dX6_init_23 : decode cX6_init 23 = .ok (.newarray .int, 2) := by decide +kernel
theorem dX6_init_25 : decode cX6_init 25 = .ok (.putfield 18, 3) := by decide +kernel
theorem dX6_init_28 : decode cX6_init 28 = .ok (.aload_n 0, 1) := by decide +kernel
theorem dX6_init_29 : decode cX6_init 29 = .ok (.iconst 0, 1) := by decide +kernel
theorem dX6_init_30 : decode cX6_init 30 = .ok (.putfield 21, 3) := by decide +kernel
theorem dX6_init_33 : decode cX6_init 33 = .ok (.aload_n 0, 1) := by decide +kernel
theorem dX6_init_34 : decode cX6_init 34 = .ok (.iconst 0, 1) := by decide +kernel
theorem dX6_init_35 : decode cX6_init 35 = .ok (.putfield 25, 3) := by decide +kernel
theorem dX6_init_38 : decode cX6_init 38 = .ok (.return_, 1) := by decide +kernel
theorem dX6_copyFrom_0 : decode cX6_copyFrom 0 = .ok (.aload_n 1, 1) := by decide +kernel
theorem dX6_copyFrom_1 : decode cX6_copyFrom 1 = .ok (.getfield 9, 3) := by decide +kernel
theorem dX6_copyFrom_4 : decode cX6_copyFrom 4 = .ok (.iconst 0, 1) := by decide +kernel
theorem dX6_copyFrom_5 : decode cX6_copyFrom 5 = .ok (.aload_n 0, 1) := by decide +kernel
theorem dX6_copyFrom_6 : decode cX6_copyFrom 6 = .ok (.getfield 9, 3) := by decide +kernel
theorem dX6_copyFrom_9 : decode cX6_copyFrom 9 = .ok (.iconst 0, 1) := by decide +kernel
theorem dX6_copyFrom_10 : decode cX6_copyFrom 10 = .ok (.bipush 6, 2) := by decide +kernel
theorem dX6_copyFrom_12 : decode cX6_copyFrom 12 = .ok (.invokestatic 29, 3) := by decide +kernel
theorem dX6_copyFrom_15 : decode cX6_copyFrom 15 = .ok (.aload_n 1, 1) := by decide +kernel
theorem dX6_copyFrom_16 : decode cX6_copyFrom 16 = .ok (.getfield 15, 3) := by decide +kernel
theorem dX6_copyFrom_19 : decode cX6_copyFrom 19 = .ok (.iconst 0, 1) := by decide +kernel
theorem dX6_copyFrom_20 : decode cX6_copyFrom 20 = .ok (.aload_n 0, 1) := by decide +kernel
theorem dX6_copyFrom_21 : decode cX6_copyFrom 21 = .ok (.getfield 15, 3) := by decide +kernel
theorem dX6_copyFrom_24 : decode cX6_copyFrom 24 = .ok (.iconst 0, 1) := by decide +kernel
theorem dX6_copyFrom_25 : decode cX6_copyFrom 25 = .ok (.bipush 6, 2) := by decide +kernel
theorem dX6_copyFrom_27 : decode cX6_copyFrom 27 = .ok (.invokestatic 29, 3) := by decide +kernel
theorem dX6_copyFrom_30 : decode cX6_copyFrom 30 = .ok (.aload_n 1, 1) := by decide +kernel
theorem dX6_copyFrom_31 : decode cX6_copyFrom 31 = .ok (.getfield 18, 3) := by decide +kernel
theorem dX6_copyFrom_34 : decode cX6_copyFrom 34 = .ok (.iconst 0, 1) := by decide +kernel
theorem dX6_copyFrom_35 : decode cX6_copyFrom 35 = .ok (.aload_n 0, 1) := by decide +kernel
theorem dX6_copyFrom_36 : decode cX6_copyFrom 36 = .ok (.getfield 18, 3) := by decide +kernel
theorem dX6_copyFrom_39 : decode cX6_copyFrom 39 = .ok (.iconst 0, 1) := by decide +kernel
theorem dX6_copyFrom_40 : decode cX6_copyFrom 40 = .ok (.bipush 6, 2) := by decide +kernel
theorem dX6_copyFrom_42 : decode cX6_copyFrom 42 = .ok (.invokestatic 29, 3) := by decide +kernel
theorem dX6_copyFrom_45 : decode cX6_copyFrom 45 = .ok (.aload_n 0, 1) := by decide +kernel
theorem dX6_copyFrom_46 : decode cX6_copyFrom 46 = .ok (.aload_n 1, 1) := by decide +kernel
theorem dX6_copyFrom_47 : decode cX6_copyFrom 47 = .ok (.getfield 21, 3) := by decide +kernel
theorem dX6_copyFrom_50 : decode cX6_copyFrom 50 = .ok (.putfield 21, 3) := by decide +kernel
theorem dX6_copyFrom_53 : decode cX6_copyFrom 53 = .ok (.aload_n 0, 1) := by decide +kernel
theorem dX6_copyFrom_54 : decode cX6_copyFrom 54 = .ok (.aload_n 1, 1) := by decide +kernel
theorem dX6_copyFrom_55 : decode cX6_copyFrom 55 = .ok (.getfield 25, 3) := by decide +kernel
theorem dX6_copyFrom_58 : decode cX6_copyFrom 58 = .ok (.putfield 25, 3) := by decide +kernel
theorem dX6_copyFrom_61 : decode cX6_copyFrom 61 = .ok (.return_, 1) := by decide +kernel
theorem dX6_addRow_0 : decode cX6_addRow 0 = .ok (.aload_n 0, 1) := by decide +kernel
theorem dX6_addRow_1 : decode cX6_addRow 1 = .ok (.getfield 25, 3) := by decide +kernel
theorem dX6_addRow_4 : decode cX6_addRow 4 = .ok (.bipush 6, 2) := by decide +kernel
theorem dX6_addRow_6 : decode cX6_addRow 6 = .ok (.if_icmp .lt 4, 3) := by decide +kernel
theorem dX6_addRow_9 : decode cX6_addRow 9 = .ok (.return_, 1) := by decide +kernel
theorem dX6_addRow_10 : decode cX6_addRow 10 = .ok (.aload_n 0, 1) := by decide +kernel
theorem dX6_addRow_11 : decode cX6_addRow 11 = .ok (.getfield 9, 3) := by decide +kernel
theorem dX6_addRow_14 : decode cX6_addRow 14 = .ok (.aload_n 0, 1) := by decide +kernel
theorem dX6_addRow_15 : decode cX6_addRow 15 = .ok (.getfield 25, 3) := by decide +kernel
theorem dX6_addRow_18 : decode cX6_addRow 18 = .ok (.iload_n 1, 1) := by decide +kernel
theorem dX6_addRow_19 : decode cX6_addRow 19 = .ok (.iastore, 1) := by decide +kernel
theorem dX6_addRow_20 : decode cX6_addRow 20 = .ok (.aload_n 0, 1) := by decide +kernel
theorem dX6_addRow_21 : decode cX6_addRow 21 = .ok (.getfield 15, 3) := by decide +kernel
theorem dX6_addRow_24 : decode cX6_addRow 24 = .ok (.aload_n 0, 1) := by decide +kernel
theorem dX6_addRow_25 : decode cX6_addRow 25 = .ok (.getfield 25, 3) := by decide +kernel
theorem dX6_addRow_28 : decode cX6_addRow 28 = .ok (.iload_n 2, 1) := by decide +kernel
theorem dX6_addRow_29 : decode cX6_addRow 29 = .ok (.iastore, 1) := by decide +kernel
theorem dX6_addRow_30 : decode cX6_addRow 30 = .ok (.aload_n 0, 1) := by decide +kernel
theorem dX6_addRow_31 : decode cX6_addRow 31 = .ok (.getfield 18, 3) := by decide +kernel
theorem dX6_addRow_34 : decode cX6_addRow 34 = .ok (.aload_n 0, 1) := by decide +kernel
theorem dX6_addRow_35 : decode cX6_addRow 35 = .ok (.getfield 25, 3) := by decide +kernel
theorem dX6_addRow_38 : decode cX6_addRow 38 = .ok (.iload_n 3, 1) := by decide +kernel
theorem dX6_addRow_39 : decode cX6_addRow 39 = .ok (.iastore, 1) := by decide +kernel
theorem dX6_addRow_40 : decode cX6_addRow 40 = .ok (.aload_n 0, 1) := by decide +kernel
theorem dX6_addRow_41 : decode cX6_addRow 41 = .ok (.dup, 1) := by decide +kernel
theorem dX6_addRow_42 : decode cX6_addRow 42 = .ok (.getfield 25, 3) := by decide +kernel
theorem dX6_addRow_45 : decode cX6_addRow 45 = .ok (.iconst 1, 1) := by decide +kernel
theorem dX6_addRow_46 : decode cX6_addRow 46 = .ok (.iadd, 1) := by decide +kernel
theorem dX6_addRow_47 : decode cX6_addRow 47 = .ok (.putfield 25, 3) := by decide +kernel
theorem dX6_addRow_50 : decode cX6_addRow 50 = .ok (.return_, 1) := by decide +kernel
theorem dX6_tell_0 : decode cX6_tell 0 = .ok (.aload_n 0, 1) := by decide +kernel
theorem dX6_tell_1 : decode cX6_tell 1 = .ok (.getfield 21, 3) := by decide +kernel
theorem dX6_tell_4 : decode cX6_tell 4 = .ok (.ifCond .ne 5, 3) := by decide +kernel
theorem dX6_tell_7 : decode cX6_tell 7 = .ok (.iconst (-1), 1) := by decide +kernel
theorem dX6_tell_8 : decode cX6_tell 8 = .ok (.ireturn, 1) := by decide +kernel
theorem dX6_tell_9 : decode cX6_tell 9 = .ok (.iload_n 1, 1) := by decide +kernel
theorem dX6_tell_10 : decode cX6_tell 10 = .ok (.ifCond .ne 8, 3) := by decide +kernel
theorem dX6_tell_13 : decode cX6_tell 13 = .ok (.aload_n 0, 1) := by decide +kernel
theorem dX6_tell_14 : decode cX6_tell 14 = .ok (.getfield 25, 3) := by decide +kernel
theorem dX6_tell_17 : decode cX6_tell 17 = .ok (.ireturn, 1) := by decide +kernel
theorem dX6_tell_18 : decode cX6_tell 18 = .ok (.iload_n 1, 1) := by decide +kernel
theorem dX6_tell_19 : decode cX6_tell 19 = .ok (.iconst 1, 1) := by decide +kernel
theorem dX6_tell_20 : decode cX6_tell 20 = .ok (.if_icmp .ne 21, 3) := by decide +kernel
theorem dX6_tell_23 : decode cX6_tell 23 = .ok (.aload_n 0, 1) := by decide +kernel
theorem dX6_tell_24 : decode cX6_tell 24 = .ok (.getfield 25, 3) := by decide +kernel
theorem dX6_tell_27 : decode cX6_tell 27 = .ok (.ifCond .ne 7, 3) := by decide +kernel
theorem dX6_tell_30 : decode cX6_tell 30 = .ok (.iconst (-1), 1) := by decide +kernel
theorem dX6_tell_31 : decode cX6_tell 31 = .ok (.goto 9, 3) := by decide +kernel
theorem dX6_tell_34 : decode cX6_tell 34 = .ok (.aload_n 0, 1) := by decide +kernel
theorem dX6_tell_35 : decode cX6_tell 35 = .ok (.getfield 9, 3) := by decide +kernel
theorem dX6_tell_38 : decode cX6_tell 38 = .ok (.iconst 0, 1) := by decide +kernel
theorem dX6_tell_39 : decode cX6_tell 39 = .ok (.iaload, 1) := by decide +kernel
theorem dX6_tell_40 : decode cX6_tell 40 = .ok (.ireturn, 1) := by decide +kernel
theorem dX6_tell_41 : decode cX6_tell 41 = .ok (.iconst 0, 1) := by decide +kernel
theorem dX6_tell_42 : decode cX6_tell 42 = .ok (.istore_n 2, 1) := by decide +kernel
theorem dX6_tell_43 : decode cX6_tell 43 = .ok (.iconst 0, 1) := by decide +kernel
theorem dX6_tell_44 : decode cX6_tell 44 = .ok (.istore_n 3, 1) := by decide +kernel
theorem dX6_tell_45 : decode cX6_tell 45 = .ok (.iload_n 3, 1) := by decide +kernel
theorem dX6_tell_46 : decode cX6_tell 46 = .ok (.aload_n 0, 1) := by decide +kernel
theorem dX6_tell_47 : decode cX6_tell 47 = .ok (.getfield 25, 3) := by decide +kernel
theorem dX6_tell_50 : decode cX6_tell 50 = .ok (.if_icmp .ge 18, 3) := by decide +kernel
theorem dX6_tell_53 : decode cX6_tell 53 = .ok (.iload_n 2, 1) := by decide +kernel
theorem dX6_tell_54 : decode cX6_tell 54 = .ok (.aload_n 0, 1) := by decide +kernel
theorem dX6_tell_55 : decode cX6_tell 55 = .ok (.getfield 18, 3) := by decide +kernel
theorem dX6_tell_58 : decode cX6_tell 58 = .ok (.iload_n 3, 1) := by decide +kernel
theorem dX6_tell_59 : decode cX6_tell 59 = .ok (.iaload, 1) := by decide +kernel
theorem dX6_tell_60 : decode cX6_tell 60 = .ok (.iadd, 1) := by decide +kernel
theorem dX6_tell_61 : decode cX6_tell 61 = .ok (.istore_n 2, 1) := by decide +kernel
theorem dX6_tell_62 : decode cX6_tell 62 = .ok (.iinc 3 1, 3) := by decide +kernel
theorem dX6_tell_65 : decode cX6_tell 65 = .ok (.goto (-20), 3) := by decide +kernel
theorem dX6_tell_68 : decode cX6_tell 68 = .ok (.iload_n 2, 1) := by decide +kernel
theorem dX6_tell_69 : decode cX6_tell 69 = .ok (.ireturn, 1) := by decide +kernel
