theorem dX7_init_0 : decode cX7_init 0 = .ok (.aload_n 0, 1) := by decide +kernel
theorem dX7_init_1 : decode cX7_init 1 = .ok (.invokespecial 1, 3) := by decide +kernel
theorem dX7_init_4 : decode cX7_init 4 = .ok (.aload_n 0, 1) := by decide +kernel
theorem dX7_init_5 : decode cX7_init 5 = .ok (.new 7, 3) := by decide +kernel
theorem dX7_init_8 : decode cX7_init 8 = .ok (.dup, 1) := by decide +kernel
theorem dX7_init_9 : decode cX7_init 9 = .ok (.invokespecial 9, 3) := by decide +kernel
theorem dX7_init_12 : decode cX7_init 12 = .ok (.putfield 10, 3) := by decide +kernel
theorem dX7_init_15 : decode cX7_init 15 = .ok (.aload_n 0, 1) := by decide +kernel
theorem dX7_init_16 : decode cX7_init 16 = .ok (.bipush 6, 2) := by decide +kernel
theorem dX7_init_18 : decode cX7_init 18 = .ok (.anewarray 7, 3) := by decide +kernel
theorem dX7_init_21 : decode cX7_init 21 = .ok (.putfield 16, 3) := by decide +kernel
theorem dX7_init_24 : decode cX7_init 24 = .ok (.aload_n 0, 1) := by decide +kernel
theorem dX7_init_25 : decode cX7_init 25 = .ok (.new 20, 3) := by decide +kernel
theorem dX7_init_28 : decode cX7_init 28 = .ok (.dup, 1) := by decide +kernel
theorem dX7_init_29 : decode cX7_init 29 = .ok (.invokespecial 22, 3) := by decide +kernel
theorem dX7_init_32 : decode cX7_init 32 = .ok (.putfield 23, 3) := by decide +kernel
theorem dX7_init_35 : decode cX7_init 35 = .ok (.aload_n 0, 1) := by decide +kernel
theorem dX7_init_36 : decode cX7_init 36 = .ok (.iconst 0, 1) := by decide +kernel
theorem dX7_init_37 : decode cX7_init 37 = .ok (.putfield 27, 3) := by decide +kernel
theorem dX7_init_40 : decode cX7_init 40 = .ok (.aload_n 0, 1) := by decide +kernel
theorem dX7_init_41 : decode cX7_init 41 = .ok (.aconst_null, 1) := by decide +kernel
theorem dX7_init_42 : decode cX7_init 42 = .ok (.putfield 31, 3) := by decide +kernel
theorem dX7_init_45 : decode cX7_init 45 = .ok (.aload_n 0, 1) := by decide +kernel
theorem dX7_init_46 : decode cX7_init 46 = .ok (.aconst_null, 1) := by decide +kernel
theorem dX7_init_47 : decode cX7_init 47 = .ok (.putfield 34, 3) := by decide +kernel
theorem dX7_init_50 : decode cX7_init 50 = .ok (.return_, 1) := by decide +kernel
theorem dX7_begin_0 : decode cX7_begin 0 = .ok (.aload_n 0, 1) := by decide +kernel
theorem dX7_begin_1 : decode cX7_begin 1 = .ok (.getfield 10, 3) := by decide +kernel
theorem dX7_begin_4 : decode cX7_begin 4 = .ok (.invokevirtual 37, 3) := by decide +kernel
theorem dX7_begin_7 : decode cX7_begin 7 = .ok (.istore_n 1, 1) := by decide +kernel
theorem dX7_begin_8 : decode cX7_begin 8 = .ok (.iload_n 1, 1) := by decide +kernel
theorem dX7_begin_9 : decode cX7_begin 9 = .ok (.iconst (-1), 1) := by decide +kernel
theorem dX7_begin_10 : decode cX7_begin 10 = .ok (.if_icmp .ne 13, 3) := by decide +kernel
theorem dX7_begin_13 : decode cX7_begin 13 = .ok (.new 41, 3) := by decide +kernel
theorem dX7_begin_16 : decode cX7_begin 16 = .ok (.dup, 1) := by decide +kernel
theorem dX7_begin_17 : decode cX7_begin 17 = .ok (.ldc 43, 2) := by decide +kernel
theorem dX7_begin_19 : decode cX7_begin 19 = .ok (.invokespecial 45, 3) := by decide +kernel
theorem dX7_begin_22 : decode cX7_begin 22 = .ok (.athrow, 1) := by decide +kernel
theorem dX7_begin_23 : decode cX7_begin 23 = .ok (.aload_n 0, 1) := by decide +kernel
theorem dX7_begin_24 : decode cX7_begin 24 = .ok (.invokevirtual 48, 3) := by decide +kernel
theorem dX7_begin_27 : decode cX7_begin 27 = .ok (.aload_n 0, 1) := by decide +kernel
theorem dX7_begin_28 : decode cX7_begin 28 = .ok (.getfield 10, 3) := by decide +kernel
theorem dX7_begin_31 : decode cX7_begin 31 = .ok (.iload_n 1, 1) := by decide +kernel
theorem dX7_begin_32 : decode cX7_begin 32 = .ok (.invokevirtual 51, 3) := by decide +kernel
theorem dX7_begin_35 : decode cX7_begin 35 = .ok (.pop, 1) := by decide +kernel
theorem dX7_begin_36 : decode cX7_begin 36 = .ok (.iload_n 1, 1) := by decide +kernel
theorem dX7_begin_37 : decode cX7_begin 37 = .ok (.ireturn, 1) := by decide +kernel
theorem dX7_write_0 : decode cX7_write 0 = .ok (.aload_n 0, 1) := by decide +kernel
theorem dX7_write_1 : decode cX7_write 1 = .ok (.getfield 10, 3) := by decide +kernel
theorem dX7_write_4 : decode cX7_write 4 = .ok (.iload_n 1, 1) := by decide +kernel
theorem dX7_write_5 : decode cX7_write 5 = .ok (.invokevirtual 55, 3) := by decide +kernel
theorem dX7_write_8 : decode cX7_write 8 = .ok (.ifCond .ne 13, 3) := by decide +kernel
theorem dX7_write_11 : decode cX7_write 11 = .ok (.new 58, 3) := by decide +kernel
theorem dX7_write_14 : decode cX7_write 14 = .ok (.dup, 1) := by decide +kernel
theorem dX7_write_15 : decode cX7_write 15 = .ok (.ldc 60, 2) := by decide +kernel
theorem dX7_write_17 : decode cX7_write 17 = .ok (.invokespecial 62, 3) := by decide +kernel
theorem dX7_write_20 : decode cX7_write 20 = .ok (.athrow, 1) := by decide +kernel
theorem dX7_write_21 : decode cX7_write 21 = .ok (.iload_n 2, 1) := by decide +kernel
theorem dX7_write_22 : decode cX7_write 22 = .ok (.iconst 4, 1) := by decide +kernel
theorem dX7_write_23 : decode cX7_write 23 = .ok (.invokestatic 63, 3) := by decide +kernel
theorem dX7_write_26 : decode cX7_write 26 = .ok (.ifCond .eq 12, 3) := by decide +kernel
theorem dX7_write_29 : decode cX7_write 29 = .ok (.iload_n 3, 1) := by decide +kernel
theorem dX7_write_30 : decode cX7_write 30 = .ok (.bipush 100, 2) := by decide +kernel
theorem dX7_write_32 : decode cX7_write 32 = .ok (.invokestatic 63, 3) := by decide +kernel
theorem dX7_write_35 : decode cX7_write 35 = .ok (.ifCond .ne 13, 3) := by decide +kernel
theorem dX7_write_38 : decode cX7_write 38 = .ok (.new 67, 3) := by decide +kernel
theorem dX7_write_41 : decode cX7_write 41 = .ok (.dup, 1) := by decide +kernel
theorem dX7_write_42 : decode cX7_write 42 = .ok (.ldc 69, 2) := by decide +kernel
theorem dX7_write_44 : decode cX7_write 44 = .ok (.invokespecial 71, 3) := by decide +kernel
theorem dX7_write_47 : decode cX7_write 47 = .ok (.athrow, 1) := by decide +kernel
theorem dX7_write_48 : decode cX7_write 48 = .ok (.aload_n 0, 1) := by decide +kernel
theorem dX7_write_49 : decode cX7_write 49 = .ok (.getfield 10, 3) := by decide +kernel
theorem dX7_write_52 : decode cX7_write 52 = .ok (.iload_n 1, 1) := by decide +kernel
theorem dX7_write_53 : decode cX7_write 53 = .ok (.invokevirtual 72, 3) := by decide +kernel
theorem dX7_write_56 : decode cX7_write 56 = .ok (.ifCond .ne 13, 3) := by decide +kernel
theorem dX7_write_59 : decode cX7_write 59 = .ok (.new 41, 3) := by decide +kernel
theorem dX7_write_62 : decode cX7_write 62 = .ok (.dup, 1) := by decide +kernel
theorem dX7_write_63 : decode cX7_write 63 = .ok (.ldc 75, 2) := by decide +kernel
theorem dX7_write_65 : decode cX7_write 65 = .ok (.invokespecial 45, 3) := by decide +kernel
theorem dX7_write_68 : decode cX7_write 68 = .ok (.athrow, 1) := by decide +kernel
theorem dX7_write_69 : decode cX7_write 69 = .ok (.aload_n 0, 1) := by decide +kernel
theorem dX7_write_70 : decode cX7_write 70 = .ok (.invokevirtual 48, 3) := by decide +kernel
theorem dX7_write_73 : decode cX7_write 73 = .ok (.aload_n 0, 1) := by decide +kernel
theorem dX7_write_74 : decode cX7_write 74 = .ok (.getfield 10, 3) := by decide +kernel
theorem dX7_write_77 : decode cX7_write 77 = .ok (.iload_n 1, 1) := by decide +kernel
theorem dX7_write_78 : decode cX7_write 78 = .ok (.iload_n 2, 1) := by decide +kernel
theorem dX7_write_79 : decode cX7_write 79 = .ok (.iload_n 3, 1) := by decide +kernel
theorem dX7_write_80 : decode cX7_write 80 = .ok (.invokevirtual 77, 3) := by decide +kernel
theorem dX7_write_83 : decode cX7_write 83 = .ok (.ireturn, 1) := by decide +kernel
theorem dX7_commit_0 : decode cX7_commit 0 = .ok (.aload_n 0, 1) := by decide +kernel
theorem dX7_commit_1 : decode cX7_commit 1 = .ok (.getfield 10, 3) := by decide +kernel
theorem dX7_commit_4 : decode cX7_commit 4 = .ok (.iload_n 1, 1) := by decide +kernel
theorem dX7_commit_5 : decode cX7_commit 5 = .ok (.invokevirtual 55, 3) := by decide +kernel
theorem dX7_commit_8 : decode cX7_commit 8 = .ok (.ifCond .ne 13, 3) := by decide +kernel
theorem dX7_commit_11 : decode cX7_commit 11 = .ok (.new 58, 3) := by decide +kernel
theorem dX7_commit_14 : decode cX7_commit 14 = .ok (.dup, 1) := by decide +kernel
theorem dX7_commit_15 : decode cX7_commit 15 = .ok (.ldc 60, 2) := by decide +kernel
theorem dX7_commit_17 : decode cX7_commit 17 = .ok (.invokespecial 62, 3) := by decide +kernel
theorem dX7_commit_20 : decode cX7_commit 20 = .ok (.athrow, 1) := by decide +kernel
theorem dX7_commit_21 : decode cX7_commit 21 = .ok (.aload_n 0, 1) := by decide +kernel
theorem dX7_commit_22 : decode cX7_commit 22 = .ok (.getfield 10, 3) := by decide +kernel
theorem dX7_commit_25 : decode cX7_commit 25 = .ok (.iload_n 1, 1) := by decide +kernel
theorem dX7_commit_26 : decode cX7_commit 26 = .ok (.invokevirtual 81, 3) := by decide +kernel
theorem dX7_commit_29 : decode cX7_commit 29 = .ok (.ifCond .ne 13, 3) := by decide +kernel
theorem dX7_commit_32 : decode cX7_commit 32 = .ok (.new 41, 3) := by decide +kernel
theorem dX7_commit_35 : decode cX7_commit 35 = .ok (.dup, 1) := by decide +kernel
theorem dX7_commit_36 : decode cX7_commit 36 = .ok (.ldc 84, 2) := by decide +kernel
theorem dX7_commit_38 : decode cX7_commit 38 = .ok (.invokespecial 45, 3) := by decide +kernel
theorem dX7_commit_41 : decode cX7_commit 41 = .ok (.athrow, 1) := by decide +kernel
theorem dX7_commit_42 : decode cX7_commit 42 = .ok (.aload_n 0, 1) := by decide +kernel
theorem dX7_commit_43 : decode cX7_commit 43 = .ok (.invokevirtual 48, 3) := by decide +kernel
theorem dX7_commit_46 : decode cX7_commit 46 = .ok (.aload_n 0, 1) := by decide +kernel
theorem dX7_commit_47 : decode cX7_commit 47 = .ok (.getfield 10, 3) := by decide +kernel
theorem dX7_commit_50 : decode cX7_commit 50 = .ok (.iload_n 1, 1) := by decide +kernel
theorem dX7_commit_51 : decode cX7_commit 51 = .ok (.invokevirtual 86, 3) := by decide +kernel
theorem dX7_commit_54 : decode cX7_commit 54 = .ok (.aload_n 0, 1) := by decide +kernel
theorem dX7_commit_55 : decode cX7_commit 55 = .ok (.getfield 10, 3) := by decide +kernel
theorem dX7_commit_58 : decode cX7_commit 58 = .ok (.getfield 90, 3) := by decide +kernel
theorem dX7_commit_61 : decode cX7_commit 61 = .ok (.getfield 94, 3) := by decide +kernel
theorem dX7_commit_64 : decode cX7_commit 64 = .ok (.ireturn, 1) := by decide +kernel
theorem dX7_drop_0 : decode cX7_drop 0 = .ok (.aload_n 0, 1) := by decide +kernel
theorem dX7_drop_1 : decode cX7_drop 1 = .ok (.getfield 10, 3) := by decide +kernel
theorem dX7_drop_4 : decode cX7_drop 4 = .ok (.iload_n 1, 1) := by decide +kernel
theorem dX7_drop_5 : decode cX7_drop 5 = .ok (.invokevirtual 55, 3) := by decide +kernel
theorem dX7_drop_8 : decode cX7_drop 8 = .ok (.ifCond .ne 13, 3) := by decide +kernel
theorem dX7_drop_11 : decode cX7_drop 11 = .ok (.new 58, 3) := by decide +kernel
theorem dX7_drop_14 : decode cX7_drop 14 = .ok (.dup, 1) := by decide +kernel
theorem dX7_drop_15 : decode cX7_drop 15 = .ok (.ldc 60, 2) := by decide +kernel
theorem dX7_drop_17 : decode cX7_drop 17 = .ok (.invokespecial 62, 3) := by decide +kernel
theorem dX7_drop_20 : decode cX7_drop 20 = .ok (.athrow, 1) := by decide +kernel
theorem dX7_drop_21 : decode cX7_drop 21 = .ok (.aload_n 0, 1) := by decide +kernel
theorem dX7_drop_22 : decode cX7_drop 22 = .ok (.invokevirtual 48, 3) := by decide +kernel
theorem dX7_drop_25 : decode cX7_drop 25 = .ok (.aload_n 0, 1) := by decide +kernel
theorem dX7_drop_26 : decode cX7_drop 26 = .ok (.getfield 10, 3) := by decide +kernel
theorem dX7_drop_29 : decode cX7_drop 29 = .ok (.iload_n 1, 1) := by decide +kernel
theorem dX7_drop_30 : decode cX7_drop 30 = .ok (.invokevirtual 99, 3) := by decide +kernel
theorem dX7_drop_33 : decode cX7_drop 33 = .ok (.ireturn, 1) := by decide +kernel
theorem dX7_want_0 : decode cX7_want 0 = .ok (.iload_n 1, 1) := by decide +kernel
theorem dX7_want_1 : decode cX7_want 1 = .ok (.iconst 3, 1) := by decide +kernel
theorem dX7_want_2 : decode cX7_want 2 = .ok (.invokestatic 63, 3) := by decide +kernel
theorem dX7_want_5 : decode cX7_want 5 = .ok (.ifCond .ne 13, 3) := by decide +kernel
theorem dX7_want_8 : decode cX7_want 8 = .ok (.new 58, 3) := by decide +kernel
theorem dX7_want_11 : decode cX7_want 11 = .ok (.dup, 1) := by decide +kernel
theorem dX7_want_12 : decode cX7_want 12 = .ok (.ldc 103, 2) := by decide +kernel
theorem dX7_want_14 : decode cX7_want 14 = .ok (.invokespecial 62, 3) := by decide +kernel
theorem dX7_want_17 : decode cX7_want 17 = .ok (.athrow, 1) := by decide +kernel
theorem dX7_want_18 : decode cX7_want 18 = .ok (.iload_n 2, 1) := by decide +kernel
theorem dX7_want_19 : decode cX7_want 19 = .ok (.bipush 16, 2) := by decide +kernel
theorem dX7_want_21 : decode cX7_want 21 = .ok (.invokestatic 63, 3) := by decide +kernel
theorem dX7_want_24 : decode cX7_want 24 = .ok (.ifCond .ne 13, 3) := by decide +kernel
theorem dX7_want_27 : decode cX7_want 27 = .ok (.new 67, 3) := by decide +kernel
theorem dX7_want_30 : decode cX7_want 30 = .ok (.dup, 1) := by decide +kernel
theorem dX7_want_31 : decode cX7_want 31 = .ok (.ldc 105, 2) := by decide +kernel
theorem dX7_want_33 : decode cX7_want 33 = .ok (.invokespecial 71, 3) := by decide +kernel
theorem dX7_want_36 : decode cX7_want 36 = .ok (.athrow, 1) := by decide +kernel
theorem dX7_want_37 : decode cX7_want 37 = .ok (.aload_n 0, 1) := by decide +kernel
theorem dX7_want_38 : decode cX7_want 38 = .ok (.invokevirtual 48, 3) := by decide +kernel
theorem dX7_want_41 : decode cX7_want 41 = .ok (.aload_n 0, 1) := by decide +kernel
theorem dX7_want_42 : decode cX7_want 42 = .ok (.getfield 10, 3) := by decide +kernel
theorem dX7_want_45 : decode cX7_want 45 = .ok (.getfield 107, 3) := by decide +kernel
theorem dX7_want_48 : decode cX7_want 48 = .ok (.iload_n 1, 1) := by decide +kernel
theorem dX7_want_49 : decode cX7_want 49 = .ok (.aaload, 1) := by decide +kernel
theorem dX7_want_50 : decode cX7_want 50 = .ok (.astore_n 3, 1) := by decide +kernel
theorem dX7_want_51 : decode cX7_want 51 = .ok (.aload_n 3, 1) := by decide +kernel
theorem dX7_want_52 : decode cX7_want 52 = .ok (.getfield 111, 3) := by decide +kernel
theorem dX7_want_55 : decode cX7_want 55 = .ok (.istore 4, 2) := by decide +kernel
theorem dX7_want_57 : decode cX7_want 57 = .ok (.aload_n 3, 1) := by decide +kernel
theorem dX7_want_58 : decode cX7_want 58 = .ok (.iload_n 2, 1) := by decide +kernel
theorem dX7_want_59 : decode cX7_want 59 = .ok (.putfield 111, 3) := by decide +kernel
theorem dX7_want_62 : decode cX7_want 62 = .ok (.iload 4, 2) := by decide +kernel
theorem dX7_want_64 : decode cX7_want 64 = .ok (.ireturn, 1) := by decide +kernel
theorem dX7_pass_0 : decode cX7_pass 0 = .ok (.iload_n 1, 1) := by decide +kernel
theorem dX7_pass_1 : decode cX7_pass 1 = .ok (.invokestatic 115, 3) := by decide +kernel
theorem dX7_pass_4 : decode cX7_pass 4 = .ok (.ifCond .ne 13, 3) := by decide +kernel
theorem dX7_pass_7 : decode cX7_pass 7 = .ok (.new 67, 3) := by decide +kernel
theorem dX7_pass_10 : decode cX7_pass 10 = .ok (.dup, 1) := by decide +kernel
theorem dX7_pass_11 : decode cX7_pass 11 = .ok (.ldc 118, 2) := by decide +kernel
theorem dX7_pass_13 : decode cX7_pass 13 = .ok (.invokespecial 71, 3) := by decide +kernel
theorem dX7_pass_16 : decode cX7_pass 16 = .ok (.athrow, 1) := by decide +kernel
theorem dX7_pass_17 : decode cX7_pass 17 = .ok (.aload_n 0, 1) := by decide +kernel
theorem dX7_pass_18 : decode cX7_pass 18 = .ok (.invokevirtual 48, 3) := by decide +kernel
theorem dX7_pass_21 : decode cX7_pass 21 = .ok (.aload_n 0, 1) := by decide +kernel
theorem dX7_pass_22 : decode cX7_pass 22 = .ok (.getfield 10, 3) := by decide +kernel
theorem dX7_pass_25 : decode cX7_pass 25 = .ok (.iload_n 1, 1) := by decide +kernel
theorem dX7_pass_26 : decode cX7_pass 26 = .ok (.invokevirtual 120, 3) := by decide +kernel
theorem dX7_pass_29 : decode cX7_pass 29 = .ok (.ireturn, 1) := by decide +kernel
theorem dX7_lose_0 : decode cX7_lose 0 = .ok (.aload_n 0, 1) := by decide +kernel
theorem dX7_lose_1 : decode cX7_lose 1 = .ok (.getfield 10, 3) := by decide +kernel
theorem dX7_lose_4 : decode cX7_lose 4 = .ok (.getfield 123, 3) := by decide +kernel
theorem dX7_lose_7 : decode cX7_lose 7 = .ok (.getfield 127, 3) := by decide +kernel
theorem dX7_lose_10 : decode cX7_lose 10 = .ok (.ifCond .ne 13, 3) := by decide +kernel
theorem dX7_lose_13 : decode cX7_lose 13 = .ok (.new 41, 3) := by decide +kernel
theorem dX7_lose_16 : decode cX7_lose 16 = .ok (.dup, 1) := by decide +kernel
theorem dX7_lose_17 : decode cX7_lose 17 = .ok (.ldc 132, 2) := by decide +kernel
theorem dX7_lose_19 : decode cX7_lose 19 = .ok (.invokespecial 45, 3) := by decide +kernel
theorem dX7_lose_22 : decode cX7_lose 22 = .ok (.athrow, 1) := by decide +kernel
theorem dX7_lose_23 : decode cX7_lose 23 = .ok (.aload_n 0, 1) := by decide +kernel
theorem dX7_lose_24 : decode cX7_lose 24 = .ok (.invokevirtual 48, 3) := by decide +kernel
theorem dX7_lose_27 : decode cX7_lose 27 = .ok (.aload_n 0, 1) := by decide +kernel
theorem dX7_lose_28 : decode cX7_lose 28 = .ok (.getfield 10, 3) := by decide +kernel
theorem dX7_lose_31 : decode cX7_lose 31 = .ok (.getfield 123, 3) := by decide +kernel
theorem dX7_lose_34 : decode cX7_lose 34 = .ok (.invokevirtual 134, 3) := by decide +kernel
theorem dX7_lose_37 : decode cX7_lose 37 = .ok (.aload_n 0, 1) := by decide +kernel
theorem dX7_lose_38 : decode cX7_lose 38 = .ok (.getfield 10, 3) := by decide +kernel
theorem dX7_lose_41 : decode cX7_lose 41 = .ok (.getfield 123, 3) := by decide +kernel
theorem dX7_lose_44 : decode cX7_lose 44 = .ok (.dup, 1) := by decide +kernel
theorem dX7_lose_45 : decode cX7_lose 45 = .ok (.getfield 137, 3) := by decide +kernel
theorem dX7_lose_48 : decode cX7_lose 48 = .ok (.iconst 1, 1) := by decide +kernel
theorem dX7_lose_49 : decode cX7_lose 49 = .ok (.iadd, 1) := by decide +kernel
theorem dX7_lose_50 : decode cX7_lose 50 = .ok (.putfield 137, 3) := by decide +kernel
theorem dX7_lose_53 : decode cX7_lose 53 = .ok (.aload_n 0, 1) := by decide +kernel
theorem dX7_lose_54 : decode cX7_lose 54 = .ok (.getfield 10, 3) := by decide +kernel
theorem dX7_lose_57 : decode cX7_lose 57 = .ok (.getfield 123, 3) := by decide +kernel
theorem dX7_lose_60 : decode cX7_lose 60 = .ok (.getfield 127, 3) := by decide +kernel
theorem dX7_lose_63 : decode cX7_lose 63 = .ok (.ireturn, 1) := by decide +kernel
theorem dX7_sweep_0 : decode cX7_sweep 0 = .ok (.aload_n 0, 1) := by decide +kernel
theorem dX7_sweep_1 : decode cX7_sweep 1 = .ok (.invokevirtual 48, 3) := by decide +kernel
theorem dX7_sweep_4 : decode cX7_sweep 4 = .ok (.aload_n 0, 1) := by decide +kernel
theorem dX7_sweep_5 : decode cX7_sweep 5 = .ok (.getfield 10, 3) := by decide +kernel
theorem dX7_sweep_8 : decode cX7_sweep 8 = .ok (.invokevirtual 140, 3) := by decide +kernel
theorem dX7_sweep_11 : decode cX7_sweep 11 = .ok (.ireturn, 1) := by decide +kernel
theorem dX7_set_0 : decode cX7_set 0 = .ok (.iload_n 1, 1) := by decide +kernel
theorem dX7_set_1 : decode cX7_set 1 = .ok (.bipush 7, 2) := by decide +kernel
theorem dX7_set_3 : decode cX7_set 3 = .ok (.invokestatic 63, 3) := by decide +kernel
theorem dX7_set_6 : decode cX7_set 6 = .ok (.ifCond .ne 13, 3) := by decide +kernel
theorem dX7_set_9 : decode cX7_set 9 = .ok (.new 58, 3) := by decide +kernel
theorem dX7_set_12 : decode cX7_set 12 = .ok (.dup, 1) := by decide +kernel
theorem dX7_set_13 : decode cX7_set 13 = .ok (.ldc 143, 2) := by decide +kernel
theorem dX7_set_15 : decode cX7_set 15 = .ok (.invokespecial 62, 3) := by decide +kernel
theorem dX7_set_18 : decode cX7_set 18 = .ok (.athrow, 1) := by decide +kernel
theorem dX7_set_19 : decode cX7_set 19 = .ok (.iload_n 1, 1) := by decide +kernel
theorem dX7_set_20 : decode cX7_set 20 = .ok (.iload_n 2, 1) := by decide +kernel
theorem dX7_set_21 : decode cX7_set 21 = .ok (.invokestatic 145, 3) := by decide +kernel
theorem dX7_set_24 : decode cX7_set 24 = .ok (.ifCond .ne 13, 3) := by decide +kernel
theorem dX7_set_27 : decode cX7_set 27 = .ok (.new 67, 3) := by decide +kernel
theorem dX7_set_30 : decode cX7_set 30 = .ok (.dup, 1) := by decide +kernel
theorem dX7_set_31 : decode cX7_set 31 = .ok (.ldc 148, 2) := by decide +kernel
theorem dX7_set_33 : decode cX7_set 33 = .ok (.invokespecial 71, 3) := by decide +kernel
theorem dX7_set_36 : decode cX7_set 36 = .ok (.athrow, 1) := by decide +kernel
theorem dX7_set_37 : decode cX7_set 37 = .ok (.iload_n 1, 1) := by decide +kernel
theorem dX7_set_38 : decode cX7_set 38 = .ok (.ifCond .ne 26, 3) := by decide +kernel
theorem dX7_set_41 : decode cX7_set 41 = .ok (.aload_n 0, 1) := by decide +kernel
theorem dX7_set_42 : decode cX7_set 42 = .ok (.getfield 10, 3) := by decide +kernel
theorem dX7_set_45 : decode cX7_set 45 = .ok (.getfield 90, 3) := by decide +kernel
theorem dX7_set_48 : decode cX7_set 48 = .ok (.getfield 150, 3) := by decide +kernel
theorem dX7_set_51 : decode cX7_set 51 = .ok (.ifCond .le 13, 3) := by decide +kernel
theorem dX7_set_54 : decode cX7_set 54 = .ok (.new 41, 3) := by decide +kernel
theorem dX7_set_57 : decode cX7_set 57 = .ok (.dup, 1) := by decide +kernel
theorem dX7_set_58 : decode cX7_set 58 = .ok (.ldc 153, 2) := by decide +kernel
theorem dX7_set_60 : decode cX7_set 60 = .ok (.invokespecial 45, 3) := by decide +kernel
theorem dX7_set_63 : decode cX7_set 63 = .ok (.athrow, 1) := by decide +kernel
theorem dX7_set_64 : decode cX7_set 64 = .ok (.aload_n 0, 1) := by decide +kernel
theorem dX7_set_65 : decode cX7_set 65 = .ok (.invokevirtual 48, 3) := by decide +kernel
theorem dX7_set_68 : decode cX7_set 68 = .ok (.aload_n 0, 1) := by decide +kernel
theorem dX7_set_69 : decode cX7_set 69 = .ok (.getfield 10, 3) := by decide +kernel
theorem dX7_set_72 : decode cX7_set 72 = .ok (.getfield 155, 3) := by decide +kernel
theorem dX7_set_75 : decode cX7_set 75 = .ok (.iload_n 1, 1) := by decide +kernel
theorem dX7_set_76 : decode cX7_set 76 = .ok (.iaload, 1) := by decide +kernel
theorem dX7_set_77 : decode cX7_set 77 = .ok (.istore_n 3, 1) := by decide +kernel
theorem dX7_set_78 : decode cX7_set 78 = .ok (.aload_n 0, 1) := by decide +kernel
theorem dX7_set_79 : decode cX7_set 79 = .ok (.getfield 10, 3) := by decide +kernel
theorem dX7_set_82 : decode cX7_set 82 = .ok (.getfield 155, 3) := by decide +kernel
theorem dX7_set_85 : decode cX7_set 85 = .ok (.iload_n 1, 1) := by decide +kernel
theorem dX7_set_86 : decode cX7_set 86 = .ok (.iload_n 2, 1) := by decide +kernel
theorem dX7_set_87 : decode cX7_set 87 = .ok (.iastore, 1) := by decide +kernel
theorem dX7_set_88 : decode cX7_set 88 = .ok (.iload_n 3, 1) := by decide +kernel
theorem dX7_set_89 : decode cX7_set 89 = .ok (.ireturn, 1) := by decide +kernel
theorem dX7_row_0 : decode cX7_row 0 = .ok (.iload_n 1, 1) := by decide +kernel
theorem dX7_row_1 : decode cX7_row 1 = .ok (.aload_n 0, 1) := by decide +kernel
theorem dX7_row_2 : decode cX7_row 2 = .ok (.getfield 10, 3) := by decide +kernel
theorem dX7_row_5 : decode cX7_row 5 = .ok (.getfield 90, 3) := by decide +kernel
theorem dX7_row_8 : decode cX7_row 8 = .ok (.getfield 94, 3) := by decide +kernel
theorem dX7_row_11 : decode cX7_row 11 = .ok (.invokestatic 63, 3) := by decide +kernel
theorem dX7_row_14 : decode cX7_row 14 = .ok (.ifCond .ne 13, 3) := by decide +kernel
theorem dX7_row_17 : decode cX7_row 17 = .ok (.new 58, 3) := by decide +kernel
theorem dX7_row_20 : decode cX7_row 20 = .ok (.dup, 1) := by decide +kernel
theorem dX7_row_21 : decode cX7_row 21 = .ok (.ldc 194, 2) := by decide +kernel
theorem dX7_row_23 : decode cX7_row 23 = .ok (.invokespecial 62, 3) := by decide +kernel
theorem dX7_row_26 : decode cX7_row 26 = .ok (.athrow, 1) := by decide +kernel
theorem dX7_row_27 : decode cX7_row 27 = .ok (.iload_n 2, 1) := by decide +kernel
theorem dX7_row_28 : decode cX7_row 28 = .ok (.bipush 8, 2) := by decide +kernel
theorem dX7_row_30 : decode cX7_row 30 = .ok (.invokestatic 63, 3) := by decide +kernel
theorem dX7_row_33 : decode cX7_row 33 = .ok (.ifCond .ne 13, 3) := by decide +kernel
theorem dX7_row_36 : decode cX7_row 36 = .ok (.new 67, 3) := by decide +kernel
theorem dX7_row_39 : decode cX7_row 39 = .ok (.dup, 1) := by decide +kernel
theorem dX7_row_40 : decode cX7_row 40 = .ok (.ldc 196, 2) := by decide +kernel
theorem dX7_row_42 : decode cX7_row 42 = .ok (.invokespecial 71, 3) := by decide +kernel
theorem dX7_row_45 : decode cX7_row 45 = .ok (.athrow, 1) := by decide +kernel
theorem dX7_row_46 : decode cX7_row 46 = .ok (.aload_n 0, 1) := by decide +kernel
theorem dX7_row_47 : decode cX7_row 47 = .ok (.getfield 10, 3) := by decide +kernel
theorem dX7_row_50 : decode cX7_row 50 = .ok (.aload_n 0, 1) := by decide +kernel
theorem dX7_row_51 : decode cX7_row 51 = .ok (.getfield 10, 3) := by decide +kernel
theorem dX7_row_54 : decode cX7_row 54 = .ok (.getfield 90, 3) := by decide +kernel
theorem dX7_row_57 : decode cX7_row 57 = .ok (.getfield 198, 3) := by decide +kernel
theorem dX7_row_60 : decode cX7_row 60 = .ok (.iload_n 1, 1) := by decide +kernel
theorem dX7_row_61 : decode cX7_row 61 = .ok (.iaload, 1) := by decide +kernel
theorem dX7_row_62 : decode cX7_row 62 = .ok (.iload_n 2, 1) := by decide +kernel
theorem dX7_row_63 : decode cX7_row 63 = .ok (.invokevirtual 201, 3) := by decide +kernel
theorem dX7_row_66 : decode cX7_row 66 = .ok (.ireturn, 1) := by decide +kernel
theorem dX7_transaction_0 : decode cX7_transaction 0 = .ok (.iload_n 1, 1) := by decide +kernel
theorem dX7_transaction_1 : decode cX7_transaction 1 = .ok (.iconst 4, 1) := by decide +kernel
theorem dX7_transaction_2 : decode cX7_transaction 2 = .ok (.invokestatic 63, 3) := by decide +kernel
theorem dX7_transaction_5 : decode cX7_transaction 5 = .ok (.ifCond .ne 13, 3) := by decide +kernel
theorem dX7_transaction_8 : decode cX7_transaction 8 = .ok (.new 58, 3) := by decide +kernel
theorem dX7_transaction_11 : decode cX7_transaction 11 = .ok (.dup, 1) := by decide +kernel
theorem dX7_transaction_12 : decode cX7_transaction 12 = .ok (.ldc 205, 2) := by decide +kernel
theorem dX7_transaction_14 : decode cX7_transaction 14 = .ok (.invokespecial 62, 3) := by decide +kernel
theorem dX7_transaction_17 : decode cX7_transaction 17 = .ok (.athrow, 1) := by decide +kernel
theorem dX7_transaction_18 : decode cX7_transaction 18 = .ok (.iload_n 2, 1) := by decide +kernel
theorem dX7_transaction_19 : decode cX7_transaction 19 = .ok (.iconst 3, 1) := by decide +kernel
theorem dX7_transaction_20 : decode cX7_transaction 20 = .ok (.invokestatic 63, 3) := by decide +kernel
theorem dX7_transaction_23 : decode cX7_transaction 23 = .ok (.ifCond .ne 13, 3) := by decide +kernel
theorem dX7_transaction_26 : decode cX7_transaction 26 = .ok (.new 67, 3) := by decide +kernel
theorem dX7_transaction_29 : decode cX7_transaction 29 = .ok (.dup, 1) := by decide +kernel
theorem dX7_transaction_30 : decode cX7_transaction 30 = .ok (.ldc 196, 2) := by decide +kernel
theorem dX7_transaction_32 : decode cX7_transaction 32 = .ok (.invokespecial 71, 3) := by decide +kernel
theorem dX7_transaction_35 : decode cX7_transaction 35 = .ok (.athrow, 1) := by decide +kernel
theorem dX7_transaction_36 : decode cX7_transaction 36 = .ok (.aload_n 0, 1) := by decide +kernel
theorem dX7_transaction_37 : decode cX7_transaction 37 = .ok (.getfield 10, 3) := by decide +kernel
theorem dX7_transaction_40 : decode cX7_transaction 40 = .ok (.getfield 207, 3) := by decide +kernel
theorem dX7_transaction_43 : decode cX7_transaction 43 = .ok (.iload_n 1, 1) := by decide +kernel
theorem dX7_transaction_44 : decode cX7_transaction 44 = .ok (.aaload, 1) := by decide +kernel
theorem dX7_transaction_45 : decode cX7_transaction 45 = .ok (.iload_n 2, 1) := by decide +kernel
theorem dX7_transaction_46 : decode cX7_transaction 46 = .ok (.invokevirtual 211, 3) := by decide +kernel
theorem dX7_transaction_49 : decode cX7_transaction 49 = .ok (.ireturn, 1) := by decide +kernel
theorem dX7_receiver_0 : decode cX7_receiver 0 = .ok (.iload_n 1, 1) := by decide +kernel
theorem dX7_receiver_1 : decode cX7_receiver 1 = .ok (.iconst 3, 1) := by decide +kernel
theorem dX7_receiver_2 : decode cX7_receiver 2 = .ok (.invokestatic 63, 3) := by decide +kernel
theorem dX7_receiver_5 : decode cX7_receiver 5 = .ok (.ifCond .ne 13, 3) := by decide +kernel
theorem dX7_receiver_8 : decode cX7_receiver 8 = .ok (.new 58, 3) := by decide +kernel
theorem dX7_receiver_11 : decode cX7_receiver 11 = .ok (.dup, 1) := by decide +kernel
theorem dX7_receiver_12 : decode cX7_receiver 12 = .ok (.ldc 103, 2) := by decide +kernel
theorem dX7_receiver_14 : decode cX7_receiver 14 = .ok (.invokespecial 62, 3) := by decide +kernel
theorem dX7_receiver_17 : decode cX7_receiver 17 = .ok (.athrow, 1) := by decide +kernel
theorem dX7_receiver_18 : decode cX7_receiver 18 = .ok (.iload_n 2, 1) := by decide +kernel
theorem dX7_receiver_19 : decode cX7_receiver 19 = .ok (.bipush 14, 2) := by decide +kernel
theorem dX7_receiver_21 : decode cX7_receiver 21 = .ok (.invokestatic 63, 3) := by decide +kernel
theorem dX7_receiver_24 : decode cX7_receiver 24 = .ok (.ifCond .ne 13, 3) := by decide +kernel
theorem dX7_receiver_27 : decode cX7_receiver 27 = .ok (.new 67, 3) := by decide +kernel
theorem dX7_receiver_30 : decode cX7_receiver 30 = .ok (.dup, 1) := by decide +kernel
theorem dX7_receiver_31 : decode cX7_receiver 31 = .ok (.ldc 196, 2) := by decide +kernel
theorem dX7_receiver_33 : decode cX7_receiver 33 = .ok (.invokespecial 71, 3) := by decide +kernel
theorem dX7_receiver_36 : decode cX7_receiver 36 = .ok (.athrow, 1) := by decide +kernel
theorem dX7_receiver_37 : decode cX7_receiver 37 = .ok (.aload_n 0, 1) := by decide +kernel
theorem dX7_receiver_38 : decode cX7_receiver 38 = .ok (.getfield 10, 3) := by decide +kernel
theorem dX7_receiver_41 : decode cX7_receiver 41 = .ok (.iload_n 1, 1) := by decide +kernel
theorem dX7_receiver_42 : decode cX7_receiver 42 = .ok (.iload_n 2, 1) := by decide +kernel
theorem dX7_receiver_43 : decode cX7_receiver 43 = .ok (.invokevirtual 216, 3) := by decide +kernel
theorem dX7_receiver_46 : decode cX7_receiver 46 = .ok (.ireturn, 1) := by decide +kernel
theorem dX7_message_0 : decode cX7_message 0 = .ok (.iload_n 1, 1) := by decide +kernel
theorem dX7_message_1 : decode cX7_message 1 = .ok (.aload_n 0, 1) := by decide +kernel
theorem dX7_message_2 : decode cX7_message 2 = .ok (.getfield 10, 3) := by decide +kernel
theorem dX7_message_5 : decode cX7_message 5 = .ok (.getfield 123, 3) := by decide +kernel
theorem dX7_message_8 : decode cX7_message 8 = .ok (.getfield 127, 3) := by decide +kernel
theorem dX7_message_11 : decode cX7_message 11 = .ok (.invokestatic 63, 3) := by decide +kernel
theorem dX7_message_14 : decode cX7_message 14 = .ok (.ifCond .ne 13, 3) := by decide +kernel
theorem dX7_message_17 : decode cX7_message 17 = .ok (.new 58, 3) := by decide +kernel
theorem dX7_message_20 : decode cX7_message 20 = .ok (.dup, 1) := by decide +kernel
theorem dX7_message_21 : decode cX7_message 21 = .ok (.ldc 194, 2) := by decide +kernel
theorem dX7_message_23 : decode cX7_message 23 = .ok (.invokespecial 62, 3) := by decide +kernel
theorem dX7_message_26 : decode cX7_message 26 = .ok (.athrow, 1) := by decide +kernel
theorem dX7_message_27 : decode cX7_message 27 = .ok (.iload_n 2, 1) := by decide +kernel
theorem dX7_message_28 : decode cX7_message 28 = .ok (.iconst 5, 1) := by decide +kernel
theorem dX7_message_29 : decode cX7_message 29 = .ok (.invokestatic 63, 3) := by decide +kernel
theorem dX7_message_32 : decode cX7_message 32 = .ok (.ifCond .ne 13, 3) := by decide +kernel
theorem dX7_message_35 : decode cX7_message 35 = .ok (.new 67, 3) := by decide +kernel
theorem dX7_message_38 : decode cX7_message 38 = .ok (.dup, 1) := by decide +kernel
theorem dX7_message_39 : decode cX7_message 39 = .ok (.ldc 196, 2) := by decide +kernel
theorem dX7_message_41 : decode cX7_message 41 = .ok (.invokespecial 71, 3) := by decide +kernel
theorem dX7_message_44 : decode cX7_message 44 = .ok (.athrow, 1) := by decide +kernel
theorem dX7_message_45 : decode cX7_message 45 = .ok (.aload_n 0, 1) := by decide +kernel
theorem dX7_message_46 : decode cX7_message 46 = .ok (.getfield 10, 3) := by decide +kernel
theorem dX7_message_49 : decode cX7_message 49 = .ok (.getfield 123, 3) := by decide +kernel
theorem dX7_message_52 : decode cX7_message 52 = .ok (.getfield 219, 3) := by decide +kernel
theorem dX7_message_55 : decode cX7_message 55 = .ok (.iload_n 1, 1) := by decide +kernel
theorem dX7_message_56 : decode cX7_message 56 = .ok (.aaload, 1) := by decide +kernel
theorem dX7_message_57 : decode cX7_message 57 = .ok (.iload_n 2, 1) := by decide +kernel
theorem dX7_message_58 : decode cX7_message 58 = .ok (.aload_n 0, 1) := by decide +kernel
theorem dX7_message_59 : decode cX7_message 59 = .ok (.getfield 10, 3) := by decide +kernel
theorem dX7_message_62 : decode cX7_message 62 = .ok (.getfield 188, 3) := by decide +kernel
theorem dX7_message_65 : decode cX7_message 65 = .ok (.invokevirtual 223, 3) := by decide +kernel
theorem dX7_message_68 : decode cX7_message 68 = .ok (.ireturn, 1) := by decide +kernel
theorem dX7_count_0 : decode cX7_count 0 = .ok (.iload_n 1, 1) := by decide +kernel
theorem dX7_count_1 : decode cX7_count 1 = .ok (.bipush 12, 2) := by decide +kernel
theorem dX7_count_3 : decode cX7_count 3 = .ok (.invokestatic 63, 3) := by decide +kernel
theorem dX7_count_6 : decode cX7_count 6 = .ok (.ifCond .ne 13, 3) := by decide +kernel
theorem dX7_count_9 : decode cX7_count 9 = .ok (.new 67, 3) := by decide +kernel
theorem dX7_count_12 : decode cX7_count 12 = .ok (.dup, 1) := by decide +kernel
theorem dX7_count_13 : decode cX7_count 13 = .ok (.ldc 196, 2) := by decide +kernel
theorem dX7_count_15 : decode cX7_count 15 = .ok (.invokespecial 71, 3) := by decide +kernel
theorem dX7_count_18 : decode cX7_count 18 = .ok (.athrow, 1) := by decide +kernel
theorem dX7_count_19 : decode cX7_count 19 = .ok (.iload_n 1, 1) := by decide +kernel
theorem dX7_count_20 : decode cX7_count 20 = .ok (.bipush 11, 2) := by decide +kernel
theorem dX7_count_22 : decode cX7_count 22 = .ok (.if_icmp .ne 10, 3) := by decide +kernel
theorem dX7_count_25 : decode cX7_count 25 = .ok (.aload_n 0, 1) := by decide +kernel
theorem dX7_count_26 : decode cX7_count 26 = .ok (.getfield 27, 3) := by decide +kernel
theorem dX7_count_29 : decode cX7_count 29 = .ok (.goto 11, 3) := by decide +kernel
theorem dX7_count_32 : decode cX7_count 32 = .ok (.aload_n 0, 1) := by decide +kernel
theorem dX7_count_33 : decode cX7_count 33 = .ok (.getfield 10, 3) := by decide +kernel
theorem dX7_count_36 : decode cX7_count 36 = .ok (.iload_n 1, 1) := by decide +kernel
theorem dX7_count_37 : decode cX7_count 37 = .ok (.invokevirtual 227, 3) := by decide +kernel
theorem dX7_count_40 : decode cX7_count 40 = .ok (.ireturn, 1) := by decide +kernel
theorem dX7_setting_0 : decode cX7_setting 0 = .ok (.iload_n 1, 1) := by decide +kernel
theorem dX7_setting_1 : decode cX7_setting 1 = .ok (.bipush 7, 2) := by decide +kernel
theorem dX7_setting_3 : decode cX7_setting 3 = .ok (.invokestatic 63, 3) := by decide +kernel
theorem dX7_setting_6 : decode cX7_setting 6 = .ok (.ifCond .ne 13, 3) := by decide +kernel
theorem dX7_setting_9 : decode cX7_setting 9 = .ok (.new 58, 3) := by decide +kernel
theorem dX7_setting_12 : decode cX7_setting 12 = .ok (.dup, 1) := by decide +kernel
theorem dX7_setting_13 : decode cX7_setting 13 = .ok (.ldc 143, 2) := by decide +kernel
theorem dX7_setting_15 : decode cX7_setting 15 = .ok (.invokespecial 62, 3) := by decide +kernel
theorem dX7_setting_18 : decode cX7_setting 18 = .ok (.athrow, 1) := by decide +kernel
theorem dX7_setting_19 : decode cX7_setting 19 = .ok (.aload_n 0, 1) := by decide +kernel
theorem dX7_setting_20 : decode cX7_setting 20 = .ok (.getfield 10, 3) := by decide +kernel
theorem dX7_setting_23 : decode cX7_setting 23 = .ok (.getfield 155, 3) := by decide +kernel
theorem dX7_setting_26 : decode cX7_setting 26 = .ok (.iload_n 1, 1) := by decide +kernel
theorem dX7_setting_27 : decode cX7_setting 27 = .ok (.iaload, 1) := by decide +kernel
theorem dX7_setting_28 : decode cX7_setting 28 = .ok (.ireturn, 1) := by decide +kernel
theorem dX7_drainIn_0 : decode cX7_drainIn 0 = .ok (.aload_n 0, 1) := by decide +kernel
theorem dX7_drainIn_1 : decode cX7_drainIn 1 = .ok (.invokevirtual 230, 3) := by decide +kernel
theorem dX7_drainIn_4 : decode cX7_drainIn 4 = .ok (.astore_n 1, 1) := by decide +kernel
theorem dX7_drainIn_5 : decode cX7_drainIn 5 = .ok (.iconst 0, 1) := by decide +kernel
theorem dX7_drainIn_6 : decode cX7_drainIn 6 = .ok (.istore_n 2, 1) := by decide +kernel
theorem dX7_drainIn_7 : decode cX7_drainIn 7 = .ok (.iload_n 2, 1) := by decide +kernel
theorem dX7_drainIn_8 : decode cX7_drainIn 8 = .ok (.sipush 300, 3) := by decide +kernel
theorem dX7_drainIn_11 : decode cX7_drainIn 11 = .ok (.if_icmp .ge 23, 3) := by decide +kernel
theorem dX7_drainIn_14 : decode cX7_drainIn 14 = .ok (.aload_n 1, 1) := by decide +kernel
theorem dX7_drainIn_15 : decode cX7_drainIn 15 = .ok (.invokevirtual 234, 3) := by decide +kernel
theorem dX7_drainIn_18 : decode cX7_drainIn 18 = .ok (.ifCond .eq 5, 3) := by decide +kernel
theorem dX7_drainIn_21 : decode cX7_drainIn 21 = .ok (.iload_n 2, 1) := by decide +kernel
theorem dX7_drainIn_22 : decode cX7_drainIn 22 = .ok (.ireturn, 1) := by decide +kernel
theorem dX7_drainIn_23 : decode cX7_drainIn 23 = .ok (.aload_n 1, 1) := by decide +kernel
theorem dX7_drainIn_24 : decode cX7_drainIn 24 = .ok (.invokevirtual 237, 3) := by decide +kernel
theorem dX7_drainIn_27 : decode cX7_drainIn 27 = .ok (.pop, 1) := by decide +kernel
theorem dX7_drainIn_28 : decode cX7_drainIn 28 = .ok (.iinc 2 1, 3) := by decide +kernel
theorem dX7_drainIn_31 : decode cX7_drainIn 31 = .ok (.goto (-24), 3) := by decide +kernel
theorem dX7_drainIn_34 : decode cX7_drainIn 34 = .ok (.aload_n 1, 1) := by decide +kernel
theorem dX7_drainIn_35 : decode cX7_drainIn 35 = .ok (.invokevirtual 234, 3) := by decide +kernel
theorem dX7_drainIn_38 : decode cX7_drainIn 38 = .ok (.ifCond .eq 9, 3) := by decide +kernel
theorem dX7_drainIn_41 : decode cX7_drainIn 41 = .ok (.sipush 300, 3) := by decide +kernel
theorem dX7_drainIn_44 : decode cX7_drainIn 44 = .ok (.goto 4, 3) := by decide +kernel
theorem dX7_drainIn_47 : decode cX7_drainIn 47 = .ok (.iconst (-1), 1) := by decide +kernel
theorem dX7_drainIn_48 : decode cX7_drainIn 48 = .ok (.ireturn, 1) := by decide +kernel
theorem dX7_skips_0 : decode cX7_skips 0 = .ok (.iload_n 1, 1) := by decide +kernel
theorem dX7_skips_1 : decode cX7_skips 1 = .ok (.iconst 4, 1) := by decide +kernel
theorem dX7_skips_2 : decode cX7_skips 2 = .ok (.invokestatic 63, 3) := by decide +kernel
theorem dX7_skips_5 : decode cX7_skips 5 = .ok (.ifCond .eq 11, 3) := by decide +kernel
theorem dX7_skips_8 : decode cX7_skips 8 = .ok (.iload_n 2, 1) := by decide +kernel
theorem dX7_skips_9 : decode cX7_skips 9 = .ok (.iconst 3, 1) := by decide +kernel
theorem dX7_skips_10 : decode cX7_skips 10 = .ok (.invokestatic 63, 3) := by decide +kernel
theorem dX7_skips_13 : decode cX7_skips 13 = .ok (.ifCond .ne 13, 3) := by decide +kernel
theorem dX7_skips_16 : decode cX7_skips 16 = .ok (.new 58, 3) := by decide +kernel
theorem dX7_skips_19 : decode cX7_skips 19 = .ok (.dup, 1) := by decide +kernel
theorem dX7_skips_20 : decode cX7_skips 20 = .ok (.ldc 246, 2) := by decide +kernel
theorem dX7_skips_22 : decode cX7_skips 22 = .ok (.invokespecial 62, 3) := by decide +kernel
theorem dX7_skips_25 : decode cX7_skips 25 = .ok (.athrow, 1) := by decide +kernel
theorem dX7_skips_26 : decode cX7_skips 26 = .ok (.aload_n 0, 1) := by decide +kernel
theorem dX7_skips_27 : decode cX7_skips 27 = .ok (.getfield 10, 3) := by decide +kernel
theorem dX7_skips_30 : decode cX7_skips 30 = .ok (.iload_n 1, 1) := by decide +kernel
theorem dX7_skips_31 : decode cX7_skips 31 = .ok (.iload_n 2, 1) := by decide +kernel
theorem dX7_skips_32 : decode cX7_skips 32 = .ok (.invokevirtual 248, 3) := by decide +kernel
theorem dX7_skips_35 : decode cX7_skips 35 = .ok (.ireturn, 1) := by decide +kernel
theorem dX7_slowest_0 : decode cX7_slowest 0 = .ok (.iconst (-1), 1) := by decide +kernel
theorem dX7_slowest_1 : decode cX7_slowest 1 = .ok (.istore_n 1, 1) := by decide +kernel
theorem dX7_slowest_2 : decode cX7_slowest 2 = .ok (.iconst 0, 1) := by decide +kernel
theorem dX7_slowest_3 : decode cX7_slowest 3 = .ok (.istore_n 2, 1) := by decide +kernel
theorem dX7_slowest_4 : decode cX7_slowest 4 = .ok (.iconst 0, 1) := by decide +kernel
theorem dX7_slowest_5 : decode cX7_slowest 5 = .ok (.istore_n 3, 1) := by decide +kernel
theorem dX7_slowest_6 : decode cX7_slowest 6 = .ok (.iload_n 3, 1) := by decide +kernel
theorem dX7_slowest_7 : decode cX7_slowest 7 = .ok (.iconst 3, 1) := by decide +kernel
theorem dX7_slowest_8 : decode cX7_slowest 8 = .ok (.if_icmp .ge 30, 3) := by decide +kernel
theorem dX7_slowest_11 : decode cX7_slowest 11 = .ok (.aload_n 0, 1) := by decide +kernel
theorem dX7_slowest_12 : decode cX7_slowest 12 = .ok (.getfield 10, 3) := by decide +kernel
theorem dX7_slowest_15 : decode cX7_slowest 15 = .ok (.iload_n 3, 1) := by decide +kernel
theorem dX7_slowest_16 : decode cX7_slowest 16 = .ok (.invokevirtual 251, 3) := by decide +kernel
theorem dX7_slowest_19 : decode cX7_slowest 19 = .ok (.istore 4, 2) := by decide +kernel
theorem dX7_slowest_21 : decode cX7_slowest 21 = .ok (.iload 4, 2) := by decide +kernel
theorem dX7_slowest_23 : decode cX7_slowest 23 = .ok (.iload_n 2, 1) := by decide +kernel
theorem dX7_slowest_24 : decode cX7_slowest 24 = .ok (.if_icmp .le 8, 3) := by decide +kernel
theorem dX7_slowest_27 : decode cX7_slowest 27 = .ok (.iload 4, 2) := by decide +kernel
theorem dX7_slowest_29 : decode cX7_slowest 29 = .ok (.istore_n 2, 1) := by decide +kernel
theorem dX7_slowest_30 : decode cX7_slowest 30 = .ok (.iload_n 3, 1) := by decide +kernel
theorem dX7_slowest_31 : decode cX7_slowest 31 = .ok (.istore_n 1, 1) := by decide +kernel
theorem dX7_slowest_32 : decode cX7_slowest 32 = .ok (.iinc 3 1, 3) := by decide +kernel
theorem dX7_slowest_35 : decode cX7_slowest 35 = .ok (.goto (-29), 3) := by decide +kernel
theorem dX7_slowest_38 : decode cX7_slowest 38 = .ok (.iload_n 1, 1) := by decide +kernel
theorem dX7_slowest_39 : decode cX7_slowest 39 = .ok (.ireturn, 1) := by decide +kernel
theorem dX7_isBelow_0 : decode cX7_isBelow 0 = .ok (.iload_n 0, 1) := by decide +kernel
theorem dX7_isBelow_1 : decode cX7_isBelow 1 = .ok (.ifCond .lt 12, 3) := by decide +kernel
theorem dX7_isBelow_4 : decode cX7_isBelow 4 = .ok (.iload_n 0, 1) := by decide +kernel
theorem dX7_isBelow_5 : decode cX7_isBelow 5 = .ok (.iload_n 1, 1) := by decide +kernel
theorem dX7_isBelow_6 : decode cX7_isBelow 6 = .ok (.if_icmp .ge 7, 3) := by decide +kernel
theorem dX7_isBelow_9 : decode cX7_isBelow 9 = .ok (.iconst 1, 1) := by decide +kernel
theorem dX7_isBelow_10 : decode cX7_isBelow 10 = .ok (.goto 4, 3) := by decide +kernel
theorem dX7_isBelow_13 : decode cX7_isBelow 13 = .ok (.iconst 0, 1) := by decide +kernel
theorem dX7_isBelow_14 : decode cX7_isBelow 14 = .ok (.ireturn, 1) := by decide +kernel
theorem dX7_isTicks_0 : decode cX7_isTicks 0 = .ok (.iload_n 0, 1) := by decide +kernel
theorem dX7_isTicks_1 : decode cX7_isTicks 1 = .ok (.iconst 1, 1) := by decide +kernel
theorem dX7_isTicks_2 : decode cX7_isTicks 2 = .ok (.if_icmp .lt 13, 3) := by decide +kernel
theorem dX7_isTicks_5 : decode cX7_isTicks 5 = .ok (.iload_n 0, 1) := by decide +kernel
theorem dX7_isTicks_6 : decode cX7_isTicks 6 = .ok (.bipush 99, 2) := by decide +kernel
theorem dX7_isTicks_8 : decode cX7_isTicks 8 = .ok (.if_icmp .gt 7, 3) := by decide +kernel
theorem dX7_isTicks_11 : decode cX7_isTicks 11 = .ok (.iconst 1, 1) := by decide +kernel
theorem dX7_isTicks_12 : decode cX7_isTicks 12 = .ok (.goto 4, 3) := by decide +kernel
theorem dX7_isTicks_15 : decode cX7_isTicks 15 = .ok (.iconst 0, 1) := by decide +kernel
theorem dX7_isTicks_16 : decode cX7_isTicks 16 = .ok (.ireturn, 1) := by decide +kernel
theorem dX7_isSettingValue_0 : decode cX7_isSettingValue 0 = .ok (.iload_n 0, 1) := by decide +kernel
theorem dX7_isSettingValue_1 : decode cX7_isSettingValue 1 = .ok (.bipush 7, 2) := by decide +kernel
theorem dX7_isSettingValue_3 : decode cX7_isSettingValue 3 = .ok (.invokestatic 63, 3) := by decide +kernel
theorem dX7_isSettingValue_6 : decode cX7_isSettingValue 6 = .ok (.ifCond .eq 21, 3) := by decide +kernel
theorem dX7_isSettingValue_9 : decode cX7_isSettingValue 9 = .ok (.iload_n 1, 1) := by decide +kernel
theorem dX7_isSettingValue_10 : decode cX7_isSettingValue 10 = .ok (.getstatic 316, 3) := by decide +kernel
theorem dX7_isSettingValue_13 : decode cX7_isSettingValue 13 = .ok (.iload_n 0, 1) := by decide +kernel
theorem dX7_isSettingValue_14 : decode cX7_isSettingValue 14 = .ok (.iaload, 1) := by decide +kernel
theorem dX7_isSettingValue_15 : decode cX7_isSettingValue 15 = .ok (.if_icmp .lt 12, 3) := by decide +kernel
theorem dX7_isSettingValue_18 : decode cX7_isSettingValue 18 = .ok (.iload_n 1, 1) := by decide +kernel
theorem dX7_isSettingValue_19 : decode cX7_isSettingValue 19 = .ok (.getstatic 319, 3) := by decide +kernel
theorem dX7_isSettingValue_22 : decode cX7_isSettingValue 22 = .ok (.iload_n 0, 1) := by decide +kernel
theorem dX7_isSettingValue_23 : decode cX7_isSettingValue 23 = .ok (.iaload, 1) := by decide +kernel
theorem dX7_isSettingValue_24 : decode cX7_isSettingValue 24 = .ok (.if_icmp .le 5, 3) := by decide +kernel
theorem dX7_isSettingValue_27 : decode cX7_isSettingValue 27 = .ok (.iconst 0, 1) := by decide +kernel
theorem dX7_isSettingValue_28 : decode cX7_isSettingValue 28 = .ok (.ireturn, 1) := by decide +kernel
theorem dX7_isSettingValue_29 : decode cX7_isSettingValue 29 = .ok (.iload_n 0, 1) := by decide +kernel
theorem dX7_isSettingValue_30 : decode cX7_isSettingValue 30 = .ok (.iconst 4, 1) := by decide +kernel
theorem dX7_isSettingValue_31 : decode cX7_isSettingValue 31 = .ok (.if_icmp .ne 8, 3) := by decide +kernel
theorem dX7_isSettingValue_34 : decode cX7_isSettingValue 34 = .ok (.iload_n 1, 1) := by decide +kernel
theorem dX7_isSettingValue_35 : decode cX7_isSettingValue 35 = .ok (.iconst 1, 1) := by decide +kernel
theorem dX7_isSettingValue_36 : decode cX7_isSettingValue 36 = .ok (.if_icmp .eq 7, 3) := by decide +kernel
theorem dX7_isSettingValue_39 : decode cX7_isSettingValue 39 = .ok (.iconst 1, 1) := by decide +kernel
theorem dX7_isSettingValue_40 : decode cX7_isSettingValue 40 = .ok (.goto 4, 3) := by decide +kernel
theorem dX7_isSettingValue_43 : decode cX7_isSettingValue 43 = .ok (.iconst 0, 1) := by decide +kernel
theorem dX7_isSettingValue_44 : decode cX7_isSettingValue 44 = .ok (.ireturn, 1) := by decide +kernel
theorem dX7_save_0 : decode cX7_save 0 = .ok (.aload_n 0, 1) := by decide +kernel
theorem dX7_save_1 : decode cX7_save 1 = .ok (.getfield 27, 3) := by decide +kernel
theorem dX7_save_4 : decode cX7_save 4 = .ok (.bipush 6, 2) := by decide +kernel
theorem dX7_save_6 : decode cX7_save 6 = .ok (.if_icmp .lt 50, 3) := by decide +kernel
theorem dX7_save_9 : decode cX7_save 9 = .ok (.aload_n 0, 1) := by decide +kernel
theorem dX7_save_10 : decode cX7_save 10 = .ok (.getfield 16, 3) := by decide +kernel
theorem dX7_save_13 : decode cX7_save 13 = .ok (.iconst 0, 1) := by decide +kernel
theorem dX7_save_14 : decode cX7_save 14 = .ok (.aaload, 1) := by decide +kernel
theorem dX7_save_15 : decode cX7_save 15 = .ok (.astore_n 1, 1) := by decide +kernel
theorem dX7_save_16 : decode cX7_save 16 = .ok (.iconst 1, 1) := by decide +kernel
theorem dX7_save_17 : decode cX7_save 17 = .ok (.istore_n 2, 1) := by decide +kernel
theorem dX7_save_18 : decode cX7_save 18 = .ok (.iload_n 2, 1) := by decide +kernel
theorem dX7_save_19 : decode cX7_save 19 = .ok (.bipush 6, 2) := by decide +kernel
theorem dX7_save_21 : decode cX7_save 21 = .ok (.if_icmp .ge 23, 3) := by decide +kernel
theorem dX7_save_24 : decode cX7_save 24 = .ok (.aload_n 0, 1) := by decide +kernel
theorem dX7_save_25 : decode cX7_save 25 = .ok (.getfield 16, 3) := by decide +kernel
theorem dX7_save_28 : decode cX7_save 28 = .ok (.iload_n 2, 1) := by decide +kernel
theorem dX7_save_29 : decode cX7_save 29 = .ok (.iconst 1, 1) := by decide +kernel
theorem dX7_save_30 : decode cX7_save 30 = .ok (.isub, 1) := by decide +kernel
theorem dX7_save_31 : decode cX7_save 31 = .ok (.aload_n 0, 1) := by decide +kernel
theorem dX7_save_32 : decode cX7_save 32 = .ok (.getfield 16, 3) := by decide +kernel
theorem dX7_save_35 : decode cX7_save 35 = .ok (.iload_n 2, 1) := by decide +kernel
theorem dX7_save_36 : decode cX7_save 36 = .ok (.aaload, 1) := by decide +kernel
theorem dX7_save_37 : decode cX7_save 37 = .ok (.aastore, 1) := by decide +kernel
theorem dX7_save_38 : decode cX7_save 38 = .ok (.iinc 2 1, 3) := by decide +kernel
theorem dX7_save_41 : decode cX7_save 41 = .ok (.goto (-23), 3) := by decide +kernel
theorem dX7_save_44 : decode cX7_save 44 = .ok (.aload_n 0, 1) := by decide +kernel
theorem dX7_save_45 : decode cX7_save 45 = .ok (.getfield 16, 3) := by decide +kernel
theorem dX7_save_48 : decode cX7_save 48 = .ok (.iconst 5, 1) := by decide +kernel
theorem dX7_save_49 : decode cX7_save 49 = .ok (.aload_n 1, 1) := by decide +kernel
theorem dX7_save_50 : decode cX7_save 50 = .ok (.aastore, 1) := by decide +kernel
theorem dX7_save_51 : decode cX7_save 51 = .ok (.aload_n 0, 1) := by decide +kernel
theorem dX7_save_52 : decode cX7_save 52 = .ok (.iconst 5, 1) := by decide +kernel
theorem dX7_save_53 : decode cX7_save 53 = .ok (.putfield 27, 3) := by decide +kernel
theorem dX7_save_56 : decode cX7_save 56 = .ok (.aload_n 0, 1) := by decide +kernel
theorem dX7_save_57 : decode cX7_save 57 = .ok (.getfield 16, 3) := by decide +kernel
theorem dX7_save_60 : decode cX7_save 60 = .ok (.aload_n 0, 1) := by decide +kernel
theorem dX7_save_61 : decode cX7_save 61 = .ok (.getfield 27, 3) := by decide +kernel
theorem dX7_save_64 : decode cX7_save 64 = .ok (.aaload, 1) := by decide +kernel
theorem dX7_save_65 : decode cX7_save 65 = .ok (.ifnonnull 19, 3) := by decide +kernel
theorem dX7_save_68 : decode cX7_save 68 = .ok (.aload_n 0, 1) := by decide +kernel
theorem dX7_save_69 : decode cX7_save 69 = .ok (.getfield 16, 3) := by decide +kernel
theorem dX7_save_72 : decode cX7_save 72 = .ok (.aload_n 0, 1) := by decide +kernel
theorem dX7_save_73 : decode cX7_save 73 = .ok (.getfield 27, 3) := by decide +kernel
theorem dX7_save_76 : decode cX7_save 76 = .ok (.new 7, 3) := by decide +kernel
theorem dX7_save_79 : decode cX7_save 79 = .ok (.dup, 1) := by decide +kernel
theorem dX7_save_80 : decode cX7_save 80 = .ok (.invokespecial 9, 3) := by decide +kernel
theorem dX7_save_83 : decode cX7_save 83 = .ok (.aastore, 1) := by decide +kernel
theorem dX7_save_84 : decode cX7_save 84 = .ok (.aload_n 0, 1) := by decide +kernel
theorem dX7_save_85 : decode cX7_save 85 = .ok (.getfield 16, 3) := by decide +kernel
theorem dX7_save_88 : decode cX7_save 88 = .ok (.aload_n 0, 1) := by decide +kernel
theorem dX7_save_89 : decode cX7_save 89 = .ok (.getfield 27, 3) := by decide +kernel
theorem dX7_save_92 : decode cX7_save 92 = .ok (.aaload, 1) := by decide +kernel
theorem dX7_save_93 : decode cX7_save 93 = .ok (.aload_n 0, 1) := by decide +kernel
theorem dX7_save_94 : decode cX7_save 94 = .ok (.getfield 10, 3) := by decide +kernel
theorem dX7_save_97 : decode cX7_save 97 = .ok (.invokevirtual 184, 3) := by decide +kernel
theorem dX7_save_100 : decode cX7_save 100 = .ok (.aload_n 0, 1) := by decide +kernel
theorem dX7_save_101 : decode cX7_save 101 = .ok (.dup, 1) := by decide +kernel
theorem dX7_save_102 : decode cX7_save 102 = .ok (.getfield 27, 3) := by decide +kernel
theorem dX7_save_105 : decode cX7_save 105 = .ok (.iconst 1, 1) := by decide +kernel
theorem dX7_save_106 : decode cX7_save 106 = .ok (.iadd, 1) := by decide +kernel
theorem dX7_save_107 : decode cX7_save 107 = .ok (.putfield 27, 3) := by decide +kernel
theorem dX7_save_110 : decode cX7_save 110 = .ok (.return_, 1) := by decide +kernel
theorem dX7_freshTrial_0 : decode cX7_freshTrial 0 = .ok (.aload_n 0, 1) := by decide +kernel
theorem dX7_freshTrial_1 : decode cX7_freshTrial 1 = .ok (.getfield 34, 3) := by decide +kernel
theorem dX7_freshTrial_4 : decode cX7_freshTrial 4 = .ok (.ifnonnull 14, 3) := by decide +kernel
theorem dX7_freshTrial_7 : decode cX7_freshTrial 7 = .ok (.aload_n 0, 1) := by decide +kernel
theorem dX7_freshTrial_8 : decode cX7_freshTrial 8 = .ok (.new 7, 3) := by decide +kernel
theorem dX7_freshTrial_11 : decode cX7_freshTrial 11 = .ok (.dup, 1) := by decide +kernel
theorem dX7_freshTrial_12 : decode cX7_freshTrial 12 = .ok (.invokespecial 9, 3) := by decide +kernel
theorem dX7_freshTrial_15 : decode cX7_freshTrial 15 = .ok (.putfield 34, 3) := by decide +kernel
theorem dX7_freshTrial_18 : decode cX7_freshTrial 18 = .ok (.aload_n 0, 1) := by decide +kernel
theorem dX7_freshTrial_19 : decode cX7_freshTrial 19 = .ok (.getfield 34, 3) := by decide +kernel
theorem dX7_freshTrial_22 : decode cX7_freshTrial 22 = .ok (.aload_n 0, 1) := by decide +kernel
theorem dX7_freshTrial_23 : decode cX7_freshTrial 23 = .ok (.getfield 10, 3) := by decide +kernel
theorem dX7_freshTrial_26 : decode cX7_freshTrial 26 = .ok (.invokevirtual 184, 3) := by decide +kernel
theorem dX7_freshTrial_29 : decode cX7_freshTrial 29 = .ok (.aload_n 0, 1) := by decide +kernel
theorem dX7_freshTrial_30 : decode cX7_freshTrial 30 = .ok (.getfield 34, 3) := by decide +kernel
theorem dX7_freshTrial_33 : decode cX7_freshTrial 33 = .ok (.areturn, 1) := by decide +kernel
