theorem dX7_init_0 : decode cX7_init 0 = .ok (.aload_n 0, 1) := by decide +kernel
theorem dX7_init_1 : decode cX7_init 1 = .ok (.invokespecial 1, 3) := by decide +kernel
theorem dX7_init_4 : decode cX7_init 4 = .ok (.aload_n 0, 1) := by decide +kernel
theorem dX7_init_5 : decode cX7_init 5 = .ok (.new 7, 3) := by decide +kernel
theorem dX7_init_8 : decode cX7_init 8 = .ok (.dup, 1) := by decide +kernel
theorem dX7_init_9 : decode cX7_init 9 = .ok (.invokespecial 9, 3) := by decide +kernel
theorem dX7_init_12 : decode cX7_init 12 = .ok (.putfield 10, 3) := by decide +kernel
theorem dX7_init_15 : decode cX7_init 15 = .ok (.aload_n 0, 1) := by decide +kernel
theorem dX7_init_16 : decode cX7_init 16 = .ok (.bipush 6, 2) := by decide +kernel
theorem dX7_init_18 : decode cX7_init 18 = .ok (.anewarray 7, 3) := by decide +kernel
theorem dX7_init_21 : decode cX7_init 21 = .ok (.putfield 16, 3) := by decide +kernel
theorem dX7_init_24 : decode cX7_init 24 = .ok (.aload_n 0, 1) := by decide +kernel
theorem dX7_init_25 : decode cX7_init 25 = .ok (.new 20, 3) := by decide +kernel
theorem dX7_init_28 : decode cX7_init 28 = .ok (.dup, 1) := by decide +kernel
theorem dX7_init_29 : decode cX7_init 29 = .ok (.invokespecial 22, 3) := by decide +kernel
theorem dX7_init_32 : decode cX7_init 32 = .ok (.putfield 23, 3) := by decide +kernel
theorem dX7_init_35 : decode cX7_init 35 = .ok (.aload_n 0, 1) := by decide +kernel
theorem dX7_init_36 : decode cX7_init 36 = .ok (.iconst 0, 1) := by decide +kernel
theorem dX7_init_37 : decode cX7_init 37 = .ok (.putfield 27, 3) := by decide +kernel
theorem dX7_init_40 : decode cX7_init 40 = .ok (.aload_n 0, 1) := by decide +kernel
theorem dX7_init_41 : decode cX7_init 41 = .ok (.aconst_null, 1) := by decide +kernel
theorem dX7_init_42 : decode cX7_init 42 = .ok (.putfield 31, 3) := by decide +kernel
theorem dX7_init_45 : decode cX7_init 45 = .ok (.aload_n 0, 1) := by decide +kernel
theorem dX7_init_46 : decode cX7_init 46 = .ok (.aconst_null, 1) := by decide +kernel
theorem dX7_init_47 : decode cX7_init 47 = .ok (.putfield 34, 3) := by decide +kernel
theorem dX7_init_50 : decode cX7_init 50 = .ok (.return_, 1) := by decide +kernel
theorem dX7_begin_0 : decode cX7_begin 0 = .ok (.aload_n 0, 1) := by decide +kernel
theorem dX7_begin_1 : decode cX7_begin 1 = .ok (.getfield 10, 3) := by decide +kernel
theorem dX7_begin_4 : decode cX7_begin 4 = .ok (.invokevirtual 37, 3) := by decide +kernel
theorem dX7_begin_7 : decode cX7_begin 7 = .ok (.istore_n 1, 1) := by decide +kernel
theorem dX7_begin_8 : decode cX7_begin 8 = .ok (.iload_n 1, 1) := by decide +kernel
theorem dX7_begin_9 : decode cX7_begin 9 = .ok (.iconst (-1), 1) := by decide +kernel
theorem dX7_begin_10 : decode cX7_begin 10 = .ok (.if_icmp .ne 13, 3) := by decide +kernel
theorem dX7_begin_13 : decode cX7_begin 13 = .ok (.new 41, 3) := by decide +kernel
theorem dX7_begin_16 : decode cX7_begin 16 = .ok (.dup, 1) := by decide +kernel
theorem dX7_begin_17 : decode cX7_begin 17 = .ok (.ldc 43, 2) := by decide +kernel
theorem dX7_begin_19 : decode cX7_begin 19 = .ok (.invokespecial 45, 3) := by decide +kernel
theorem dX7_begin_22 : decode cX7_begin 22 = .ok (.athrow, 1) := by decide +kernel
theorem dX7_begin_23 : decode cX7_begin 23 = .ok (.aload_n 0, 1) := by decide +kernel
theorem dX7_begin_24 : decode cX7_begin 24 = .ok (.invokevirtual 48, 3) := by decide +kernel
theorem dX7_begin_27 : decode cX7_begin 27 = .ok (.aload_n 0, 1) := by decide +kernel
theorem dX7_begin_28 : decode cX7_begin 28 = .ok (.getfield 10, 3) := by decide +kernel
theorem dX7_begin_31 : decode cX7_begin 31 = .ok (.iload_n 1, 1) := by decide +kernel
theorem dX7_begin_32 : decode cX7_begin 32 = .ok (.invokevirtual 51, 3) := by decide +kernel
theorem dX7_begin_35 : decode cX7_begin 35 = .ok (.pop, 1) := by decide +kernel
theorem dX7_begin_36 : decode cX7_begin 36 = .ok (.iload_n 1, 1) := by decide +kernel
theorem dX7_begin_37 : decode cX7_begin 37 = .ok (.ireturn, 1) := by decide +kernel
theorem dX7_write_0 : decode cX7_write 0 = .ok (.aload_n 0, 1) := by decide +kernel
theorem dX7_write_1 : decode cX7_write 1 = .ok (.getfield 10, 3) := by decide +kernel
theorem dX7_write_4 : decode cX7_write 4 = .ok (.iload_n 1, 1) := by decide +kernel
theorem dX7_write_5 : decode cX7_write 5 = .ok (.invokevirtual 55, 3) := by decide +kernel
theorem dX7_write_8 : decode cX7_write 8 = .ok (.ifCond .ne 13, 3) := by decide +kernel
theorem dX7_write_11 : decode cX7_write 11 = .ok (.new 58, 3) := by decide +kernel
theorem dX7_write_14 : decode cX7_write 14 = .ok (.dup, 1) := by decide +kernel
theorem dX7_write_15 : decode cX7_write 15 = .ok (.ldc 60, 2) := by decide +kernel
theorem dX7_write_17 : decode cX7_write 17 = .ok (.invokespecial 62, 3) := by decide +kernel
theorem dX7_write_20 : decode cX7_write 20 = .ok (.athrow, 1) := by decide +kernel
theorem dX7_write_21 : decode cX7_write 21 = .ok (.iload_n 2, 1) := by decide +kernel
theorem dX7_write_22 : decode cX7_write 22 = .ok (.iconst 4, 1) := by decide +kernel
theorem dX7_write_23 : decode cX7_write 23 = .ok (.invokestatic 63, 3) := by decide +kernel
theorem dX7_write_26 : decode cX7_write 26 = .ok (.ifCond .eq 12, 3) := by decide +kernel
theorem dX7_write_29 : decode cX7_write 29 = .ok (.iload_n 3, 1) := by decide +kernel
theorem dX7_write_30 : decode cX7_write 30 = .ok (.bipush 100, 2) := by decide +kernel
theorem dX7_write_32 : decode cX7_write 32 = .ok (.invokestatic 63, 3) := by decide +kernel
theorem dX7_write_35 : decode cX7_write 35 = .ok (.ifCond .ne 13, 3) := by decide +kernel
theorem dX7_write_38 : decode cX7_write 38 = .ok (.new 67, 3) := by decide +kernel
theorem dX7_write_41 : decode cX7_write 41 = .ok (.dup, 1) := by decide +kernel
theorem dX7_write_42 : decode cX7_write 42 = .ok (.ldc 69, 2) := by decide +kernel
theorem dX7_write_44 : decode cX7_write 44 = .ok (.invokespecial 71, 3) := by decide +kernel
theorem dX7_write_47 : decode cX7_write 47 = .ok (.athrow, 1) := by decide +kernel
theorem dX7_write_48 : decode cX7_write 48 = .ok (.aload_n 0, 1) := by decide +kernel
theorem dX7_write_49 : decode cX7_write 49 = .ok (.getfield 10, 3) := by decide +kernel
theorem dX7_write_52 : decode cX7_write 52 = .ok (.iload_n 1, 1) := by decide +kernel
theorem dX7_write_53 : decode cX7_write 53 = .ok (.invokevirtual 72, 3) := by decide +kernel
theorem dX7_write_56 : decode cX7_write 56 = .ok (.ifCond .ne 13, 3) := by decide +kernel
theorem dX7_write_59 : decode cX7_write 59 = .ok (.new 41, 3) := by decide +kernel
theorem dX7_write_62 : decode cX7_write 62 = .ok (.dup, 1) := by decide +kernel
theorem dX7_write_63 : decode cX7_write 63 = .ok (.ldc 75, 2) := by decide +kernel
theorem dX7_write_65 : decode cX7_write 65 = .ok (.invokespecial 45, 3) := by decide +kernel
theorem dX7_write_68 : decode cX7_write 68 = .ok (.athrow, 1) := by decide +kernel
theorem dX7_write_69 : decode cX7_write 69 = .ok (.aload_n 0, 1) := by decide +kernel
theorem dX7_write_70 : decode cX7_write 70 = .ok (.invokevirtual 48, 3) := by decide +kernel
theorem dX7_write_73 : decode cX7_write 73 = .ok (.aload_n 0, 1) := by decide +kernel
theorem dX7_write_74 : decode cX7_write 74 = .ok (.getfield 10, 3) := by decide +kernel
theorem dX7_write_77 : decode cX7_write 77 = .ok (.iload_n 1, 1) := by decide +kernel
theorem dX7_write_78 : decode cX7_write 78 = .ok (.iload_n 2, 1) := by decide +kernel
theorem dX7_write_79 : decode cX7_write 79 = .ok (.iload_n 3, 1) := by decide +kernel
theorem dX7_write_80 : decode cX7_write 80 = .ok (.invokevirtual 77, 3) := by decide +kernel
theorem dX7_write_83 : decode cX7_write 83 = .ok (.ireturn, 1) := by decide +kernel
theorem dX7_commit_0 : decode cX7_commit 0 = .ok (.aload_n 0, 1) := by decide +kernel
theorem dX7_commit_1 : decode cX7_commit 1 = .ok (.getfield 10, 3) := by decide +kernel
theorem dX7_commit_4 : decode cX7_commit 4 = .ok (.iload_n 1, 1) := by decide +kernel
theorem dX7_commit_5 : decode cX7_commit 5 = .ok (.invokevirtual 55, 3) := by decide +kernel
theorem dX7_commit_8 : decode cX7_commit 8 = .ok (.ifCond .ne 13, 3) := by decide +kernel
theorem dX7_commit_11 : decode cX7_commit 11 = .ok (.new 58, 3) := by decide +kernel
theorem dX7_commit_14 : decode cX7_commit 14 = .ok (.dup, 1) := by decide +kernel
theorem dX7_commit_15 : decode cX7_commit 15 = .ok (.ldc 60, 2) := by decide +kernel
theorem dX7_commit_17 : decode cX7_commit 17 = .ok (.invokespecial 62, 3) := by decide +kernel
theorem dX7_commit_20 : decode cX7_commit 20 = .ok (.athrow, 1) := by decide +kernel
theorem dX7_commit_21 : decode cX7_commit 21 = .ok (.aload_n 0, 1) := by decide +kernel
theorem dX7_commit_22 : decode cX7_commit 22 = .ok (.getfield 10, 3) := by decide +kernel
theorem dX7_commit_25 : decode cX7_commit 25 = .ok (.iload_n 1, 1) := by decide +kernel
theorem dX7_commit_26 : decode cX7_commit 26 = .ok (.invokevirtual 81, 3) := by decide +kernel
theorem dX7_commit_29 : decode cX7_commit 29 = .ok (.ifCond .ne 13, 3) := by decide +kernel
theorem dX7_commit_32 : decode cX7_commit 32 = .ok (.new 41, 3) := by decide +kernel
theorem dX7_commit_35 : decode cX7_commit 35 = .ok (.dup, 1) := by decide +kernel
theorem dX7_commit_36 : decode cX7_commit 36 = .ok (.ldc 84, 2) := by decide +kernel
theorem dX7_commit_38 : decode cX7_commit 38 = .ok (.invokespecial 45, 3) := by decide +kernel
theorem dX7_commit_41 : decode cX7_commit 41 = .ok (.athrow, 1) := by decide +kernel
theorem dX7_commit_42 : decode cX7_commit 42 = .ok (.aload_n 0, 1) := by decide +kernel
theorem dX7_commit_43 : decode cX7_commit 43 = .ok (.invokevirtual 48, 3) := by decide +kernel
theorem dX7_commit_46 : decode cX7_commit 46 = .ok (.aload_n 0, 1) := by decide +kernel
theorem dX7_commit_47 : decode cX7_commit 47 = .ok (.getfield 10, 3) := by decide +kernel
theorem dX7_commit_50 : decode cX7_commit 50 = .ok (.iload_n 1, 1) := by decide +kernel
theorem dX7_commit_51 : decode cX7_commit 51 = .ok (.invokevirtual 86, 3) := by decide +kernel
theorem dX7_commit_54 : decode cX7_commit 54 = .ok (.aload_n 0, 1) := by decide +kernel
theorem dX7_commit_55 : decode cX7_commit 55 = .ok (.getfield 10, 3) := by decide +kernel
theorem dX7_commit_58 : decode cX7_commit 58 = .ok (.getfield 90, 3) := by decide +kernel
theorem dX7_commit_61 : decode cX7_commit 61 = .ok (.getfield 94, 3) := by decide +kernel
theorem dX7_commit_64 : decode cX7_commit 64 = .ok (.ireturn, 1) := by decide +kernel
theorem dX7_drop_0 : decode cX7_drop 0 = .ok (.aload_n 0, 1) := by decide +kernel
theorem dX7_drop_1 : decode cX7_drop 1 = .ok (.getfield 10, 3) := by decide +kernel
theorem dX7_drop_4 : decode cX7_drop 4 = .ok (.iload_n 1, 1) := by decide +kernel
theorem dX7_drop_5 : decode cX7_drop 5 = .ok (.invokevirtual 55, 3) := by decide +kernel
theorem dX7_drop_8 : decode cX7_drop 8 = .ok (.ifCond .ne 13, 3) := by decide +kernel
theorem dX7_drop_11 : decode cX7_drop 11 = .ok (.new 58, 3) := by decide +kernel
theorem dX7_drop_14 : decode cX7_drop 14 = .ok (.dup, 1) := by decide +kernel
theorem dX7_drop_15 : decode cX7_drop 15 = .ok (.ldc 60, 2) := by decide +kernel
theorem dX7_drop_17 : decode cX7_drop 17 = .ok (.invokespecial 62, 3) := by decide +kernel
theorem dX7_drop_20 : decode cX7_drop 20 = .ok (.athrow, 1) := by decide +kernel
theorem dX7_drop_21 : decode cX7_drop 21 = .ok (.aload_n 0, 1) := by decide +kernel
theorem dX7_drop_22 : decode cX7_drop 22 = .ok (.invokevirtual 48, 3) := by decide +kernel
theorem dX7_drop_25 : decode cX7_drop 25 = .ok (.aload_n 0, 1) := by decide +kernel
theorem dX7_drop_26 : decode cX7_drop 26 = .ok (.getfield 10, 3) := by decide +kernel
theorem dX7_drop_29 : decode cX7_drop 29 = .ok (.iload_n 1, 1) := by decide +kernel
theorem dX7_drop_30 : decode cX7_drop 30 = .ok (.invokevirtual 99, 3) := by decide +kernel
theorem dX7_drop_33 : decode cX7_drop 33 = .ok (.ireturn, 1) := by decide +kernel
theorem dX7_want_0 : decode cX7_want 0 = .ok (.iload_n 1, 1) := by decide +kernel
theorem dX7_want_1 : decode cX7_want 1 = .ok (.iconst 3, 1) := by decide +kernel
theorem dX7_want_2 : decode cX7_want 2 = .ok (.invokestatic 63, 3) := by decide +kernel
theorem dX7_want_5 : decode cX7_want 5 = .ok (.ifCond .ne 13, 3) := by decide +kernel
theorem dX7_want_8 : decode cX7_want 8 = .ok (.new 58, 3) := by decide +kernel
theorem dX7_want_11 : decode cX7_want 11 = .ok (.dup, 1) := by decide +kernel
theorem dX7_want_12 : decode cX7_want 12 = .ok (.ldc 103, 2) := by decide +kernel
theorem dX7_want_14 : decode cX7_want 14 = .ok (.invokespecial 62, 3) := by decide +kernel
theorem dX7_want_17 : decode cX7_want 17 = .ok (.athrow, 1) := by decide +kernel
theorem dX7_want_18 : decode cX7_want 18 = .ok (.iload_n 2, 1) := by decide +kernel
theorem dX7_want_19 : decode cX7_want 19 = .ok (.bipush 16, 2) := by decide +kernel
theorem dX7_want_21 : decode cX7_want 21 = .ok (.invokestatic 63, 3) := by decide +kernel
theorem dX7_want_24 : decode cX7_want 24 = .ok (.ifCond .ne 13, 3) := by decide +kernel
theorem dX7_want_27 : decode cX7_want 27 = .ok (.new 67, 3) := by decide +kernel
theorem dX7_want_30 : decode cX7_want 30 = .ok (.dup, 1) := by decide +kernel
theorem dX7_want_31 : decode cX7_want 31 = .ok (.ldc 105, 2) := by decide +kernel
theorem dX7_want_33 : decode cX7_want 33 = .ok (.invokespecial 71, 3) := by decide +kernel
theorem dX7_want_36 : decode cX7_want 36 = .ok (.athrow, 1) := by decide +kernel
theorem dX7_want_37 : decode cX7_want 37 = .ok (.aload_n 0, 1) := by decide +kernel
theorem dX7_want_38 : decode cX7_want 38 = .ok (.invokevirtual 48, 3) := by decide +kernel
theorem dX7_want_41 : decode cX7_want 41 = .ok (.aload_n 0, 1) := by decide +kernel
theorem dX7_want_42 : decode cX7_want 42 = .ok (.getfield 10, 3) := by decide +kernel
theorem dX7_want_45 : decode cX7_want 45 = .ok (.getfield 107, 3) := by decide +kernel
theorem dX7_want_48 : decode cX7_want 48 = .ok (.iload_n 1, 1) := by decide +kernel
theorem dX7_want_49 : decode cX7_want 49 = .ok (.aaload, 1) := by decide +kernel
theorem dX7_want_50 : decode cX7_want 50 = .ok (.astore_n 3, 1) := by decide +kernel
theorem dX7_want_51 : decode cX7_want 51 = .ok (.aload_n 3, 1) := by decide +kernel
theorem dX7_want_52 : decode cX7_want 52 = .ok (.getfield 111, 3) := by decide +kernel
theorem dX7_want_55 : decode cX7_want 55 = .ok (.istore 4, 2) := by decide +kernel
theorem dX7_want_57 : decode cX7_want 57 = .ok (.aload_n 3, 1) := by decide +kernel
theorem dX7_want_58 : decode cX7_want 58 = .ok (.iload_n 2, 1) := by decide +kernel
theorem dX7_want_59 : decode cX7_want 59 = .ok (.putfield 111, 3) := by decide +kernel
theorem dX7_want_62 : decode cX7_want 62 = .ok (.iload 4, 2) := by decide +kernel
theorem dX7_want_64 : decode cX7_want 64 = .ok (.ireturn, 1) := by decide +kernel
theorem dX7_pass_0 : decode cX7_pass 0 = .ok (.iload_n 1, 1) := by decide +kernel
theorem dX7_pass_1 : decode cX7_pass 1 = .ok (.invokestatic 115, 3) := by decide +kernel
theorem dX7_pass_4 : decode cX7_pass 4 = .ok (.ifCond .ne 13, 3) := by decide +kernel
theorem dX7_pass_7 : decode cX7_pass 7 = .ok (.new 67, 3) := by decide +kernel
theorem dX7_pass_10 : decode cX7_pass 10 = .ok (.dup, 1) := by decide +kernel
theorem dX7_pass_11 : decode cX7_pass 11 = .ok (.ldc 118, 2) := by decide +kernel
theorem dX7_pass_13 : decode cX7_pass 13 = .ok (.invokespecial 71, 3) := by decide +kernel
theorem dX7_pass_16 : decode cX7_pass 16 = .ok (.athrow, 1) := by decide +kernel
theorem dX7_pass_17 : decode cX7_pass 17 = .ok (.aload_n 0, 1) := by decide +kernel
theorem dX7_pass_18 : decode cX7_pass 18 = .ok (.invokevirtual 48, 3) := by decide +kernel
theorem dX7_pass_21 : decode cX7_pass 21 = .ok (.aload_n 0, 1) := by decide +kernel
theorem dX7_pass_22 : decode cX7_pass 22 = .ok (.getfield 10, 3) := by decide +kernel
theorem dX7_pass_25 : decode cX7_pass 25 = .ok (.iload_n 1, 1) := by decide +kernel
theorem dX7_pass_26 : decode cX7_pass 26 = .ok (.invokevirtual 120, 3) := by decide +kernel
theorem dX7_pass_29 : decode cX7_pass 29 = .ok (.ireturn, 1) := by decide +kernel
theorem dX7_lose_0 : decode cX7_lose 0 = .ok (.aload_n 0, 1) := by decide +kernel
theorem dX7_lose_1 : decode cX7_lose 1 = .ok (.getfield 10, 3) := by decide +kernel
theorem dX7_lose_4 : decode cX7_lose 4 = .ok (.getfield 123, 3) := by decide +kernel
theorem dX7_lose_7 : decode cX7_lose 7 = .ok (.getfield 127, 3) := by decide +kernel
theorem dX7_lose_10 : decode cX7_lose 10 = .ok (.ifCond .ne 13, 3) := by decide +kernel
theorem dX7_lose_13 : decode cX7_lose 13 = .ok (.new 41, 3) := by decide +kernel
theorem dX7_lose_16 : decode cX7_lose 16 = .ok (.dup, 1) := by decide +kernel
theorem dX7_lose_17 : decode cX7_lose 17 = .ok (.ldc 132, 2) := by decide +kernel
theorem dX7_lose_19 : decode cX7_lose 19 = .ok (.invokespecial 45, 3) := by decide +kernel
theorem dX7_lose_22 : decode cX7_lose 22 = .ok (.athrow, 1) := by decide +kernel
theorem dX7_lose_23 : decode cX7_lose 23 = .ok (.aload_n 0, 1) := by decide +kernel
theorem dX7_lose_24 : decode cX7_lose 24 = .ok (.invokevirtual 48, 3) := by decide +kernel
theorem dX7_lose_27 : decode cX7_lose 27 = .ok (.aload_n 0, 1) := by decide +kernel
theorem dX7_lose_28 : decode cX7_lose 28 = .ok (.getfield 10, 3) := by decide +kernel
theorem dX7_lose_31 : decode cX7_lose 31 = .ok (.getfield 123, 3) := by decide +kernel
theorem dX7_lose_34 : decode cX7_lose 34 = .ok (.invokevirtual 134, 3) := by decide +kernel
theorem dX7_lose_37 : decode cX7_lose 37 = .ok (.aload_n 0, 1) := by decide +kernel
theorem dX7_lose_38 : decode cX7_lose 38 = .ok (.getfield 10, 3) := by decide +kernel
theorem dX7_lose_41 : decode cX7_lose 41 = .ok (.getfield 123, 3) := by decide +kernel
theorem dX7_lose_44 : decode cX7_lose 44 = .ok (.dup, 1) := by decide +kernel
theorem dX7_lose_45 : decode cX7_lose 45 = .ok (.getfield 137, 3) := by decide +kernel
theorem dX7_lose_48 : decode cX7_lose 48 = .ok (.iconst 1, 1) := by decide +kernel
theorem dX7_lose_49 : decode cX7_lose 49 = .ok (.iadd, 1) := by decide +kernel
theorem dX7_lose_50 : decode cX7_lose 50 = .ok (.putfield 137, 3) := by decide +kernel
theorem dX7_lose_53 : decode cX7_lose 53 = .ok (.aload_n 0, 1) := by decide +kernel
theorem dX7_lose_54 : decode cX7_lose 54 = .ok (.getfield 10, 3) := by decide +kernel
theorem dX7_lose_57 : decode cX7_lose 57 = .ok (.getfield 123, 3) := by decide +kernel
theorem dX7_lose_60 : decode cX7_lose 60 = .ok (.getfield 127, 3) := by decide +kernel
theorem dX7_lose_63 : decode cX7_lose 63 = .ok (.ireturn, 1) := by decide +kernel
theorem dX7_sweep_0 : decode cX7_sweep 0 = .ok (.aload_n 0, 1) := by decide +kernel
theorem dX7_sweep_1 : decode cX7_sweep 1 = .ok (.invokevirtual 48, 3) := by decide +kernel
theorem dX7_sweep_4 : decode cX7_sweep 4 = .ok (.aload_n 0, 1) := by decide +kernel
theorem dX7_sweep_5 : decode cX7_sweep 5 = .ok (.getfield 10, 3) := by decide +kernel
theorem dX7_sweep_8 : decode cX7_sweep 8 = .ok (.invokevirtual 140, 3) := by decide +kernel
theorem dX7_sweep_11 : decode cX7_sweep 11 = .ok (.ireturn, 1) := by decide +kernel
theorem dX7_set_0 : decode cX7_set 0 = .ok (.iload_n 1, 1) := by decide +kernel
theorem dX7_set_1 : decode cX7_set 1 = .ok (.bipush 7, 2) := by decide +kernel
theorem dX7_set_3 : decode cX7_set 3 = .ok (.invokestatic 63, 3) := by decide +kernel
theorem dX7_set_6 : decode cX7_set 6 = .ok (.ifCond .ne 13, 3) := by decide +kernel
theorem dX7_set_9 : decode cX7_set 9 = .ok (.new 58, 3) := by decide +kernel
theorem dX7_set_12 : decode cX7_set 12 = .ok (.dup, 1) := by decide +kernel
theorem dX7_set_13 : decode cX7_set 13 = .ok (.ldc 143, 2) := by decide +kernel
theorem dX7_set_15 : decode cX7_set 15 = .ok (.invokespecial 62, 3) := by decide +kernel
theorem dX7_set_18 : decode cX7_set 18 = .ok (.athrow, 1) := by decide +kernel
theorem dX7_set_19 : decode cX7_set 19 = .ok (.iload_n 1, 1) := by decide +kernel
theorem dX7_set_20 : decode cX7_set 20 = .ok (.iload_n 2, 1) := by decide +kernel
theorem dX7_set_21 : decode cX7_set 21 = .ok (.invokestatic 145, 3) := by decide +kernel
theorem dX7_set_24 : decode cX7_set 24 = .ok (.ifCond .ne 13, 3) := by decide +kernel
theorem dX7_set_27 : decode cX7_set 27 = .ok (.new 67, 3) := by decide +kernel
theorem dX7_set_30 : decode cX7_set 30 = .ok (.dup, 1) := by decide +kernel
theorem dX7_set_31 : decode cX7_set 31 = .ok (.ldc 148, 2) := by decide +kernel
theorem dX7_set_33 : decode cX7_set 33 = .ok (.invokespecial 71, 3) := by decide +kernel
theorem dX7_set_36 : decode cX7_set 36 = .ok (.athrow, 1) := by decide +kernel
theorem dX7_set_37 : decode cX7_set 37 = .ok (.iload_n 1, 1) := by decide +kernel
theorem dX7_set_38 : decode cX7_set 38 = .ok (.ifCond .ne 26, 3) := by decide +kernel
theorem dX7_set_41 : decode cX7_set 41 = .ok (.aload_n 0, 1) := by decide +kernel
theorem dX7_set_42 : decode cX7_set 42 = .ok (.getfield 10, 3) := by decide +kernel
theorem dX7_set_45 : decode cX7_set 45 = .ok (.getfield 90, 3) := by decide +kernel
theorem dX7_set_48 : decode cX7_set 48 = .ok (.getfield 150, 3) := by decide +kernel
theorem dX7_set_51 : decode cX7_set 51 = .ok (.ifCond .le 13, 3) := by decide +kernel
theorem dX7_set_54 : decode cX7_set 54 = .ok (.new 41, 3) := by decide +kernel
theorem dX7_set_57 : decode cX7_set 57 = .ok (.dup, 1) := by decide +kernel
theorem dX7_set_58 : decode cX7_set 58 = .ok (.ldc 153, 2) := by decide +kernel
theorem dX7_set_60 : decode cX7_set 60 = .ok (.invokespecial 45, 3) := by decide +kernel
theorem dX7_set_63 : decode cX7_set 63 = .ok (.athrow, 1) := by decide +kernel
theorem dX7_set_64 : decode cX7_set 64 = .ok (.aload_n 0, 1) := by decide +kernel
theorem dX7_set_65 : decode cX7_set 65 = .ok (.invokevirtual 48, 3) := by decide +kernel
theorem dX7_set_68 : decode cX7_set 68 = .ok (.aload_n 0, 1) := by decide +kernel
theorem dX7_set_69 : decode cX7_set 69 = .ok (.getfield 10, 3) := by decide +kernel
theorem dX7_set_72 : decode cX7_set 72 = .ok (.getfield 155, 3) := by decide +kernel
theorem dX7_set_75 : decode cX7_set 75 = .ok (.iload_n 1, 1) := by decide +kernel
theorem dX7_set_76 : decode cX7_set 76 = .ok (.iaload, 1) := by decide +kernel
theorem dX7_set_77 : decode cX7_set 77 = .ok (.istore_n 3, 1) := by decide +kernel
theorem dX7_set_78 : decode cX7_set 78 = .ok (.aload_n 0, 1) := by decide +kernel
theorem dX7_set_79 : decode cX7_set 79 = .ok (.getfield 10, 3) := by decide +kernel
theorem dX7_set_82 : decode cX7_set 82 = .ok (.getfield 155, 3) := by decide +kernel
theorem dX7_set_85 : decode cX7_set 85 = .ok (.iload_n 1, 1) := by decide +kernel
theorem dX7_set_86 : decode cX7_set 86 = .ok (.iload_n 2, 1) := by decide +kernel
theorem dX7_set_87 : decode cX7_set 87 = .ok (.iastore, 1) := by decide +kernel
theorem dX7_set_88 : decode cX7_set 88 = .ok (.iload_n 3, 1) := by decide +kernel
theorem dX7_set_89 : decode cX7_set 89 = .ok (.ireturn, 1) := by decide +kernel
theorem dX7_append_0 : decode cX7_append 0 = .ok (.iload_n 1, 1) := by decide +kernel
theorem dX7_append_1 : decode cX7_append 1 = .ok (.bipush 33, 2) := by decide +kernel
theorem dX7_append_3 : decode cX7_append 3 = .ok (.if_icmp .lt 9, 3) := by decide +kernel
theorem dX7_append_6 : decode cX7_append 6 = .ok (.iload_n 1, 1) := by decide +kernel
theorem dX7_append_7 : decode cX7_append 7 = .ok (.bipush 126, 2) := by decide +kernel
theorem dX7_append_9 : decode cX7_append 9 = .ok (.if_icmp .le 13, 3) := by decide +kernel
theorem dX7_append_12 : decode cX7_append 12 = .ok (.new 67, 3) := by decide +kernel
theorem dX7_append_15 : decode cX7_append 15 = .ok (.dup, 1) := by decide +kernel
theorem dX7_append_16 : decode cX7_append 16 = .ok (.ldc 159, 2) := by decide +kernel
theorem dX7_append_18 : decode cX7_append 18 = .ok (.invokespecial 71, 3) := by decide +kernel
theorem dX7_append_21 : decode cX7_append 21 = .ok (.athrow, 1) := by decide +kernel
theorem dX7_append_22 : decode cX7_append 22 = .ok (.aload_n 0, 1) := by decide +kernel
theorem dX7_append_23 : decode cX7_append 23 = .ok (.getfield 23, 3) := by decide +kernel
theorem dX7_append_26 : decode cX7_append 26 = .ok (.getfield 161, 3) := by decide +kernel
theorem dX7_append_29 : decode cX7_append 29 = .ok (.bipush 60, 2) := by decide +kernel
theorem dX7_append_31 : decode cX7_append 31 = .ok (.if_icmp .lt 13, 3) := by decide +kernel
theorem dX7_append_34 : decode cX7_append 34 = .ok (.new 41, 3) := by decide +kernel
theorem dX7_append_37 : decode cX7_append 37 = .ok (.dup, 1) := by decide +kernel
theorem dX7_append_38 : decode cX7_append 38 = .ok (.ldc 164, 2) := by decide +kernel
theorem dX7_append_40 : decode cX7_append 40 = .ok (.invokespecial 45, 3) := by decide +kernel
theorem dX7_append_43 : decode cX7_append 43 = .ok (.athrow, 1) := by decide +kernel
theorem dX7_append_44 : decode cX7_append 44 = .ok (.aload_n 0, 1) := by decide +kernel
theorem dX7_append_45 : decode cX7_append 45 = .ok (.getfield 23, 3) := by decide +kernel
theorem dX7_append_48 : decode cX7_append 48 = .ok (.getfield 166, 3) := by decide +kernel
theorem dX7_append_51 : decode cX7_append 51 = .ok (.aload_n 0, 1) := by decide +kernel
theorem dX7_append_52 : decode cX7_append 52 = .ok (.getfield 23, 3) := by decide +kernel
theorem dX7_append_55 : decode cX7_append 55 = .ok (.getfield 161, 3) := by decide +kernel
theorem dX7_append_58 : decode cX7_append 58 = .ok (.iload_n 1, 1) := by decide +kernel
theorem dX7_append_59 : decode cX7_append 59 = .ok (.iastore, 1) := by decide +kernel
theorem dX7_append_60 : decode cX7_append 60 = .ok (.aload_n 0, 1) := by decide +kernel
theorem dX7_append_61 : decode cX7_append 61 = .ok (.getfield 23, 3) := by decide +kernel
theorem dX7_append_64 : decode cX7_append 64 = .ok (.dup, 1) := by decide +kernel
theorem dX7_append_65 : decode cX7_append 65 = .ok (.getfield 161, 3) := by decide +kernel
theorem dX7_append_68 : decode cX7_append 68 = .ok (.iconst 1, 1) := by decide +kernel
theorem dX7_append_69 : decode cX7_append 69 = .ok (.iadd, 1) := by decide +kernel
theorem dX7_append_70 : decode cX7_append 70 = .ok (.putfield 161, 3) := by decide +kernel
theorem dX7_append_73 : decode cX7_append 73 = .ok (.aload_n 0, 1) := by decide +kernel
theorem dX7_append_74 : decode cX7_append 74 = .ok (.getfield 23, 3) := by decide +kernel
theorem dX7_append_77 : decode cX7_append 77 = .ok (.getfield 161, 3) := by decide +kernel
theorem dX7_append_80 : decode cX7_append 80 = .ok (.ireturn, 1) := by decide +kernel
theorem dX7_clearBuffer_0 : decode cX7_clearBuffer 0 = .ok (.aload_n 0, 1) := by decide +kernel
theorem dX7_clearBuffer_1 : decode cX7_clearBuffer 1 = .ok (.getfield 23, 3) := by decide +kernel
theorem dX7_clearBuffer_4 : decode cX7_clearBuffer 4 = .ok (.getfield 161, 3) := by decide +kernel
theorem dX7_clearBuffer_7 : decode cX7_clearBuffer 7 = .ok (.istore_n 1, 1) := by decide +kernel
theorem dX7_clearBuffer_8 : decode cX7_clearBuffer 8 = .ok (.aload_n 0, 1) := by decide +kernel
theorem dX7_clearBuffer_9 : decode cX7_clearBuffer 9 = .ok (.getfield 23, 3) := by decide +kernel
theorem dX7_clearBuffer_12 : decode cX7_clearBuffer 12 = .ok (.iconst 0, 1) := by decide +kernel
theorem dX7_clearBuffer_13 : decode cX7_clearBuffer 13 = .ok (.putfield 161, 3) := by decide +kernel
theorem dX7_clearBuffer_16 : decode cX7_clearBuffer 16 = .ok (.iload_n 1, 1) := by decide +kernel
theorem dX7_clearBuffer_17 : decode cX7_clearBuffer 17 = .ok (.ireturn, 1) := by decide +kernel
theorem dX7_firstError_0 : decode cX7_firstError 0 = .ok (.aload_n 0, 1) := by decide +kernel
theorem dX7_firstError_1 : decode cX7_firstError 1 = .ok (.getfield 23, 3) := by decide +kernel
theorem dX7_firstError_4 : decode cX7_firstError 4 = .ok (.invokevirtual 169, 3) := by decide +kernel
theorem dX7_firstError_7 : decode cX7_firstError 7 = .ok (.ireturn, 1) := by decide +kernel
theorem dX7_obey_0 : decode cX7_obey 0 = .ok (.aload_n 0, 1) := by decide +kernel
theorem dX7_obey_1 : decode cX7_obey 1 = .ok (.getfield 23, 3) := by decide +kernel
theorem dX7_obey_4 : decode cX7_obey 4 = .ok (.invokevirtual 172, 3) := by decide +kernel
theorem dX7_obey_7 : decode cX7_obey 7 = .ok (.ifCond .ne 13, 3) := by decide +kernel
theorem dX7_obey_10 : decode cX7_obey 10 = .ok (.new 67, 3) := by decide +kernel
theorem dX7_obey_13 : decode cX7_obey 13 = .ok (.dup, 1) := by decide +kernel
theorem dX7_obey_14 : decode cX7_obey 14 = .ok (.ldc 176, 2) := by decide +kernel
theorem dX7_obey_16 : decode cX7_obey 16 = .ok (.invokespecial 71, 3) := by decide +kernel
theorem dX7_obey_19 : decode cX7_obey 19 = .ok (.athrow, 1) := by decide +kernel
theorem dX7_obey_20 : decode cX7_obey 20 = .ok (.aload_n 0, 1) := by decide +kernel
theorem dX7_obey_21 : decode cX7_obey 21 = .ok (.invokevirtual 48, 3) := by decide +kernel
theorem dX7_obey_24 : decode cX7_obey 24 = .ok (.iconst 0, 1) := by decide +kernel
theorem dX7_obey_25 : decode cX7_obey 25 = .ok (.istore_n 1, 1) := by decide +kernel
theorem dX7_obey_26 : decode cX7_obey 26 = .ok (.iconst 0, 1) := by decide +kernel
theorem dX7_obey_27 : decode cX7_obey 27 = .ok (.istore_n 2, 1) := by decide +kernel
theorem dX7_obey_28 : decode cX7_obey 28 = .ok (.iload_n 2, 1) := by decide +kernel
theorem dX7_obey_29 : decode cX7_obey 29 = .ok (.aload_n 0, 1) := by decide +kernel
theorem dX7_obey_30 : decode cX7_obey 30 = .ok (.getfield 23, 3) := by decide +kernel
theorem dX7_obey_33 : decode cX7_obey 33 = .ok (.getfield 161, 3) := by decide +kernel
theorem dX7_obey_36 : decode cX7_obey 36 = .ok (.if_icmp .ge 34, 3) := by decide +kernel
theorem dX7_obey_39 : decode cX7_obey 39 = .ok (.aload_n 0, 1) := by decide +kernel
theorem dX7_obey_40 : decode cX7_obey 40 = .ok (.getfield 23, 3) := by decide +kernel
theorem dX7_obey_43 : decode cX7_obey 43 = .ok (.iload_n 2, 1) := by decide +kernel
theorem dX7_obey_44 : decode cX7_obey 44 = .ok (.invokevirtual 178, 3) := by decide +kernel
theorem dX7_obey_47 : decode cX7_obey 47 = .ok (.ifCond .eq 17, 3) := by decide +kernel
theorem dX7_obey_50 : decode cX7_obey 50 = .ok (.aload_n 0, 1) := by decide +kernel
theorem dX7_obey_51 : decode cX7_obey 51 = .ok (.iload_n 2, 1) := by decide +kernel
theorem dX7_obey_52 : decode cX7_obey 52 = .ok (.invokevirtual 181, 3) := by decide +kernel
theorem dX7_obey_55 : decode cX7_obey 55 = .ok (.ifCond .ne 6, 3) := by decide +kernel
theorem dX7_obey_58 : decode cX7_obey 58 = .ok (.goto 12, 3) := by decide +kernel
theorem dX7_obey_61 : decode cX7_obey 61 = .ok (.iinc 1 1, 3) := by decide +kernel
theorem dX7_obey_64 : decode cX7_obey 64 = .ok (.iinc 2 1, 3) := by decide +kernel
theorem dX7_obey_67 : decode cX7_obey 67 = .ok (.goto (-39), 3) := by decide +kernel
theorem dX7_obey_70 : decode cX7_obey 70 = .ok (.aload_n 0, 1) := by decide +kernel
theorem dX7_obey_71 : decode cX7_obey 71 = .ok (.getfield 23, 3) := by decide +kernel
theorem dX7_obey_74 : decode cX7_obey 74 = .ok (.iconst 0, 1) := by decide +kernel
theorem dX7_obey_75 : decode cX7_obey 75 = .ok (.putfield 161, 3) := by decide +kernel
theorem dX7_obey_78 : decode cX7_obey 78 = .ok (.iload_n 1, 1) := by decide +kernel
theorem dX7_obey_79 : decode cX7_obey 79 = .ok (.ireturn, 1) := by decide +kernel
theorem dX7_keep_0 : decode cX7_keep 0 = .ok (.aload_n 0, 1) := by decide +kernel
theorem dX7_keep_1 : decode cX7_keep 1 = .ok (.getfield 31, 3) := by decide +kernel
theorem dX7_keep_4 : decode cX7_keep 4 = .ok (.ifnonnull 14, 3) := by decide +kernel
theorem dX7_keep_7 : decode cX7_keep 7 = .ok (.aload_n 0, 1) := by decide +kernel
theorem dX7_keep_8 : decode cX7_keep 8 = .ok (.new 7, 3) := by decide +kernel
theorem dX7_keep_11 : decode cX7_keep 11 = .ok (.dup, 1) := by decide +kernel
theorem dX7_keep_12 : decode cX7_keep 12 = .ok (.invokespecial 9, 3) := by decide +kernel
theorem dX7_keep_15 : decode cX7_keep 15 = .ok (.putfield 31, 3) := by decide +kernel
theorem dX7_keep_18 : decode cX7_keep 18 = .ok (.aload_n 0, 1) := by decide +kernel
theorem dX7_keep_19 : decode cX7_keep 19 = .ok (.getfield 31, 3) := by decide +kernel
theorem dX7_keep_22 : decode cX7_keep 22 = .ok (.aload_n 0, 1) := by decide +kernel
theorem dX7_keep_23 : decode cX7_keep 23 = .ok (.getfield 10, 3) := by decide +kernel
theorem dX7_keep_26 : decode cX7_keep 26 = .ok (.invokevirtual 184, 3) := by decide +kernel
theorem dX7_keep_29 : decode cX7_keep 29 = .ok (.aload_n 0, 1) := by decide +kernel
theorem dX7_keep_30 : decode cX7_keep 30 = .ok (.getfield 10, 3) := by decide +kernel
theorem dX7_keep_33 : decode cX7_keep 33 = .ok (.getfield 188, 3) := by decide +kernel
theorem dX7_keep_36 : decode cX7_keep 36 = .ok (.ireturn, 1) := by decide +kernel
theorem dX7_goBack_0 : decode cX7_goBack 0 = .ok (.aload_n 0, 1) := by decide +kernel
theorem dX7_goBack_1 : decode cX7_goBack 1 = .ok (.getfield 31, 3) := by decide +kernel
theorem dX7_goBack_4 : decode cX7_goBack 4 = .ok (.ifnonnull 13, 3) := by decide +kernel
theorem dX7_goBack_7 : decode cX7_goBack 7 = .ok (.new 41, 3) := by decide +kernel
theorem dX7_goBack_10 : decode cX7_goBack 10 = .ok (.dup, 1) := by decide +kernel
theorem dX7_goBack_11 : decode cX7_goBack 11 = .ok (.ldc 190, 2) := by decide +kernel
theorem dX7_goBack_13 : decode cX7_goBack 13 = .ok (.invokespecial 45, 3) := by decide +kernel
theorem dX7_goBack_16 : decode cX7_goBack 16 = .ok (.athrow, 1) := by decide +kernel
theorem dX7_goBack_17 : decode cX7_goBack 17 = .ok (.aload_n 0, 1) := by decide +kernel
theorem dX7_goBack_18 : decode cX7_goBack 18 = .ok (.invokevirtual 48, 3) := by decide +kernel
theorem dX7_goBack_21 : decode cX7_goBack 21 = .ok (.aload_n 0, 1) := by decide +kernel
theorem dX7_goBack_22 : decode cX7_goBack 22 = .ok (.getfield 10, 3) := by decide +kernel
theorem dX7_goBack_25 : decode cX7_goBack 25 = .ok (.aload_n 0, 1) := by decide +kernel
theorem dX7_goBack_26 : decode cX7_goBack 26 = .ok (.getfield 31, 3) := by decide +kernel
theorem dX7_goBack_29 : decode cX7_goBack 29 = .ok (.invokevirtual 184, 3) := by decide +kernel
theorem dX7_goBack_32 : decode cX7_goBack 32 = .ok (.aload_n 0, 1) := by decide +kernel
theorem dX7_goBack_33 : decode cX7_goBack 33 = .ok (.getfield 10, 3) := by decide +kernel
theorem dX7_goBack_36 : decode cX7_goBack 36 = .ok (.getfield 188, 3) := by decide +kernel
theorem dX7_goBack_39 : decode cX7_goBack 39 = .ok (.ireturn, 1) := by decide +kernel
theorem dX7_undo_0 : decode cX7_undo 0 = .ok (.aload_n 0, 1) := by decide +kernel
theorem dX7_undo_1 : decode cX7_undo 1 = .ok (.getfield 27, 3) := by decide +kernel
theorem dX7_undo_4 : decode cX7_undo 4 = .ok (.ifCond .ne 13, 3) := by decide +kernel
theorem dX7_undo_7 : decode cX7_undo 7 = .ok (.new 41, 3) := by decide +kernel
theorem dX7_undo_10 : decode cX7_undo 10 = .ok (.dup, 1) := by decide +kernel
theorem dX7_undo_11 : decode cX7_undo 11 = .ok (.ldc 192, 2) := by decide +kernel
theorem dX7_undo_13 : decode cX7_undo 13 = .ok (.invokespecial 45, 3) := by decide +kernel
theorem dX7_undo_16 : decode cX7_undo 16 = .ok (.athrow, 1) := by decide +kernel
theorem dX7_undo_17 : decode cX7_undo 17 = .ok (.aload_n 0, 1) := by decide +kernel
theorem dX7_undo_18 : decode cX7_undo 18 = .ok (.dup, 1) := by decide +kernel
theorem dX7_undo_19 : decode cX7_undo 19 = .ok (.getfield 27, 3) := by decide +kernel
theorem dX7_undo_22 : decode cX7_undo 22 = .ok (.iconst 1, 1) := by decide +kernel
theorem dX7_undo_23 : decode cX7_undo 23 = .ok (.isub, 1) := by decide +kernel
theorem dX7_undo_24 : decode cX7_undo 24 = .ok (.putfield 27, 3) := by decide +kernel
theorem dX7_undo_27 : decode cX7_undo 27 = .ok (.aload_n 0, 1) := by decide +kernel
theorem dX7_undo_28 : decode cX7_undo 28 = .ok (.getfield 16, 3) := by decide +kernel
theorem dX7_undo_31 : decode cX7_undo 31 = .ok (.aload_n 0, 1) := by decide +kernel
theorem dX7_undo_32 : decode cX7_undo 32 = .ok (.getfield 27, 3) := by decide +kernel
theorem dX7_undo_35 : decode cX7_undo 35 = .ok (.aaload, 1) := by decide +kernel
theorem dX7_undo_36 : decode cX7_undo 36 = .ok (.astore_n 1, 1) := by decide +kernel
theorem dX7_undo_37 : decode cX7_undo 37 = .ok (.aload_n 1, 1) := by decide +kernel
theorem dX7_undo_38 : decode cX7_undo 38 = .ok (.ifnull 11, 3) := by decide +kernel
theorem dX7_undo_41 : decode cX7_undo 41 = .ok (.aload_n 0, 1) := by decide +kernel
theorem dX7_undo_42 : decode cX7_undo 42 = .ok (.getfield 10, 3) := by decide +kernel
theorem dX7_undo_45 : decode cX7_undo 45 = .ok (.aload_n 1, 1) := by decide +kernel
theorem dX7_undo_46 : decode cX7_undo 46 = .ok (.invokevirtual 184, 3) := by decide +kernel
theorem dX7_undo_49 : decode cX7_undo 49 = .ok (.aload_n 0, 1) := by decide +kernel
theorem dX7_undo_50 : decode cX7_undo 50 = .ok (.getfield 27, 3) := by decide +kernel
theorem dX7_undo_53 : decode cX7_undo 53 = .ok (.ireturn, 1) := by decide +kernel
theorem dX7_row_0 : decode cX7_row 0 = .ok (.iload_n 1, 1) := by decide +kernel
theorem dX7_row_1 : decode cX7_row 1 = .ok (.aload_n 0, 1) := by decide +kernel
theorem dX7_row_2 : decode cX7_row 2 = .ok (.getfield 10, 3) := by decide +kernel
theorem dX7_row_5 : decode cX7_row 5 = .ok (.getfield 90, 3) := by decide +kernel
theorem dX7_row_8 : decode cX7_row 8 = .ok (.getfield 94, 3) := by decide +kernel
theorem dX7_row_11 : decode cX7_row 11 = .ok (.invokestatic 63, 3) := by decide +kernel
theorem dX7_row_14 : decode cX7_row 14 = .ok (.ifCond .ne 13, 3) := by decide +kernel
theorem dX7_row_17 : decode cX7_row 17 = .ok (.new 58, 3) := by decide +kernel
theorem dX7_row_20 : decode cX7_row 20 = .ok (.dup, 1) := by decide +kernel
theorem dX7_row_21 : decode cX7_row 21 = .ok (.ldc 194, 2) := by decide +kernel
theorem dX7_row_23 : decode cX7_row 23 = .ok (.invokespecial 62, 3) := by decide +kernel
theorem dX7_row_26 : decode cX7_row 26 = .ok (.athrow, 1) := by decide +kernel
theorem dX7_row_27 : decode cX7_row 27 = .ok (.iload_n 2, 1) := by decide +kernel
theorem dX7_row_28 : decode cX7_row 28 = .ok (.bipush 8, 2) := by decide +kernel
theorem dX7_row_30 : decode cX7_row 30 = .ok (.invokestatic 63, 3) := by decide +kernel
theorem dX7_row_33 : decode cX7_row 33 = .ok (.ifCond .ne 13, 3) := by decide +kernel
theorem dX7_row_36 : decode cX7_row 36 = .ok (.new 67, 3) := by decide +kernel
theorem dX7_row_39 : decode cX7_row 39 = .ok (.dup, 1) := by decide +kernel
theorem dX7_row_40 : decode cX7_row 40 = .ok (.ldc 196, 2) := by decide +kernel
theorem dX7_row_42 : decode cX7_row 42 = .ok (.invokespecial 71, 3) := by decide +kernel
theorem dX7_row_45 : decode cX7_row 45 = .ok (.athrow, 1) := by decide +kernel
theorem dX7_row_46 : decode cX7_row 46 = .ok (.aload_n 0, 1) := by decide +kernel
theorem dX7_row_47 : decode cX7_row 47 = .ok (.getfield 10, 3) := by decide +kernel
theorem dX7_row_50 : decode cX7_row 50 = .ok (.aload_n 0, 1) := by decide +kernel
theorem dX7_row_51 : decode cX7_row 51 = .ok (.getfield 10, 3) := by decide +kernel
theorem dX7_row_54 : decode cX7_row 54 = .ok (.getfield 90, 3) := by decide +kernel
theorem dX7_row_57 : decode cX7_row 57 = .ok (.getfield 198, 3) := by decide +kernel
theorem dX7_row_60 : decode cX7_row 60 = .ok (.iload_n 1, 1) := by decide +kernel
theorem dX7_row_61 : decode cX7_row 61 = .ok (.iaload, 1) := by decide +kernel
theorem dX7_row_62 : decode cX7_row 62 = .ok (.iload_n 2, 1) := by decide +kernel
theorem dX7_row_63 : decode cX7_row 63 = .ok (.invokevirtual 201, 3) := by decide +kernel
theorem dX7_row_66 : decode cX7_row 66 = .ok (.ireturn, 1) := by decide +kernel
theorem dX7_transaction_0 : decode cX7_transaction 0 = .ok (.iload_n 1, 1) := by decide +kernel
theorem dX7_transaction_1 : decode cX7_transaction 1 = .ok (.iconst 4, 1) := by decide +kernel
theorem dX7_transaction_2 : decode cX7_transaction 2 = .ok (.invokestatic 63, 3) := by decide +kernel
theorem dX7_transaction_5 : decode cX7_transaction 5 = .ok (.ifCond .ne 13, 3) := by decide +kernel
theorem dX7_transaction_8 : decode cX7_transaction 8 = .ok (.new 58, 3) := by decide +kernel
theorem dX7_transaction_11 : decode cX7_transaction 11 = .ok (.dup, 1) := by decide +kernel
theorem dX7_transaction_12 : decode cX7_transaction 12 = .ok (.ldc 205, 2) := by decide +kernel
theorem dX7_transaction_14 : decode cX7_transaction 14 = .ok (.invokespecial 62, 3) := by decide +kernel
theorem dX7_transaction_17 : decode cX7_transaction 17 = .ok (.athrow, 1) := by decide +kernel
theorem dX7_transaction_18 : decode cX7_transaction 18 = .ok (.iload_n 2, 1) := by decide +kernel
theorem dX7_transaction_19 : decode cX7_transaction 19 = .ok (.iconst 3, 1) := by decide +kernel
theorem dX7_transaction_20 : decode cX7_transaction 20 = .ok (.invokestatic 63, 3) := by decide +kernel
theorem dX7_transaction_23 : decode cX7_transaction 23 = .ok (.ifCond .ne 13, 3) := by decide +kernel
theorem dX7_transaction_26 : decode cX7_transaction 26 = .ok (.new 67, 3) := by decide +kernel
theorem dX7_transaction_29 : decode cX7_transaction 29 = .ok (.dup, 1) := by decide +kernel
theorem dX7_transaction_30 : decode cX7_transaction 30 = .ok (.ldc 196, 2) := by decide +kernel
theorem dX7_transaction_32 : decode cX7_transaction 32 = .ok (.invokespecial 71, 3) := by decide +kernel
theorem dX7_transaction_35 : decode cX7_transaction 35 = .ok (.athrow, 1) := by decide +kernel
theorem dX7_transaction_36 : decode cX7_transaction 36 = .ok (.aload_n 0, 1) := by decide +kernel
theorem dX7_transaction_37 : decode cX7_transaction 37 = .ok (.getfield 10, 3) := by decide +kernel
theorem dX7_transaction_40 : decode cX7_transaction 40 = .ok (.getfield 207, 3) := by decide +kernel
theorem dX7_transaction_43 : decode cX7_transaction 43 = .ok (.iload_n 1, 1) := by decide +kernel
theorem dX7_transaction_44 : decode cX7_transaction 44 = .ok (.aaload, 1) := by decide +kernel
theorem dX7_transaction_45 : decode cX7_transaction 45 = .ok (.iload_n 2, 1) := by decide +kernel
theorem dX7_transaction_46 : decode cX7_transaction 46 = .ok (.invokevirtual 211, 3) := by decide +kernel
theorem dX7_transaction_49 : decode cX7_transaction 49 = .ok (.ireturn, 1) := by decide +kernel
theorem dX7_receiver_0 : decode cX7_receiver 0 = .ok (.iload_n 1, 1) := by decide +kernel
theorem dX7_receiver_1 : decode cX7_receiver 1 = .ok (.iconst 3, 1) := by decide +kernel
theorem dX7_receiver_2 : decode cX7_receiver 2 = .ok (.invokestatic 63, 3) := by decide +kernel
theorem dX7_receiver_5 : decode cX7_receiver 5 = .ok (.ifCond .ne 13, 3) := by decide +kernel
theorem dX7_receiver_8 : decode cX7_receiver 8 = .ok (.new 58, 3) := by decide +kernel
theorem dX7_receiver_11 : decode cX7_receiver 11 = .ok (.dup, 1) := by decide +kernel
theorem dX7_receiver_12 : decode cX7_receiver 12 = .ok (.ldc 103, 2) := by decide +kernel
theorem dX7_receiver_14 : decode cX7_receiver 14 = .ok (.invokespecial 62, 3) := by decide +kernel
theorem dX7_receiver_17 : decode cX7_receiver 17 = .ok (.athrow, 1) := by decide +kernel
theorem dX7_receiver_18 : decode cX7_receiver 18 = .ok (.iload_n 2, 1) := by decide +kernel
theorem dX7_receiver_19 : decode cX7_receiver 19 = .ok (.bipush 14, 2) := by decide +kernel
theorem dX7_receiver_21 : decode cX7_receiver 21 = .ok (.invokestatic 63, 3) := by decide +kernel
theorem dX7_receiver_24 : decode cX7_receiver 24 = .ok (.ifCond .ne 13, 3) := by decide +kernel
theorem dX7_receiver_27 : decode cX7_receiver 27 = .ok (.new 67, 3) := by decide +kernel
theorem dX7_receiver_30 : decode cX7_receiver 30 = .ok (.dup, 1) := by decide +kernel
theorem dX7_receiver_31 : decode cX7_receiver 31 = .ok (.ldc 196, 2) := by decide +kernel
theorem dX7_receiver_33 : decode cX7_receiver 33 = .ok (.invokespecial 71, 3) := by decide +kernel
theorem dX7_receiver_36 : decode cX7_receiver 36 = .ok (.athrow, 1) := by decide +kernel
theorem dX7_receiver_37 : decode cX7_receiver 37 = .ok (.aload_n 0, 1) := by decide +kernel
theorem dX7_receiver_38 : decode cX7_receiver 38 = .ok (.getfield 10, 3) := by decide +kernel
theorem dX7_receiver_41 : decode cX7_receiver 41 = .ok (.iload_n 1, 1) := by decide +kernel
theorem dX7_receiver_42 : decode cX7_receiver 42 = .ok (.iload_n 2, 1) := by decide +kernel
theorem dX7_receiver_43 : decode cX7_receiver 43 = .ok (.invokevirtual 216, 3) := by decide +kernel
theorem dX7_receiver_46 : decode cX7_receiver 46 = .ok (.ireturn, 1) := by decide +kernel
theorem dX7_message_0 : decode cX7_message 0 = .ok (.iload_n 1, 1) := by decide +kernel
theorem dX7_message_1 : decode cX7_message 1 = .ok (.aload_n 0, 1) := by decide +kernel
theorem dX7_message_2 : decode cX7_message 2 = .ok (.getfield 10, 3) := by decide +kernel
theorem dX7_message_5 : decode cX7_message 5 = .ok (.getfield 123, 3) := by decide +kernel
theorem dX7_message_8 : decode cX7_message 8 = .ok (.getfield 127, 3) := by decide +kernel
theorem dX7_message_11 : decode cX7_message 11 = .ok (.invokestatic 63, 3) := by decide +kernel
theorem dX7_message_14 : decode cX7_message 14 = .ok (.ifCond .ne 13, 3) := by decide +kernel
theorem dX7_message_17 : decode cX7_message 17 = .ok (.new 58, 3) := by decide +kernel
theorem dX7_message_20 : decode cX7_message 20 = .ok (.dup, 1) := by decide +kernel
theorem dX7_message_21 : decode cX7_message 21 = .ok (.ldc 194, 2) := by decide +kernel
theorem dX7_message_23 : decode cX7_message 23 = .ok (.invokespecial 62, 3) := by decide +kernel
theorem dX7_message_26 : decode cX7_message 26 = .ok (.athrow, 1) := by decide +kernel
theorem dX7_message_27 : decode cX7_message 27 = .ok (.iload_n 2, 1) := by decide +kernel
theorem dX7_message_28 : decode cX7_message 28 = .ok (.iconst 5, 1) := by decide +kernel
theorem dX7_message_29 : decode cX7_message 29 = .ok (.invokestatic 63, 3) := by decide +kernel
theorem dX7_message_32 : decode cX7_message 32 = .ok (.ifCond .ne 13, 3) := by decide +kernel
theorem dX7_message_35 : decode cX7_message 35 = .ok (.new 67, 3) := by decide +kernel
theorem dX7_message_38 : decode cX7_message 38 = .ok (.dup, 1) := by decide +kernel
theorem dX7_message_39 : decode cX7_message 39 = .ok (.ldc 196, 2) := by decide +kernel
theorem dX7_message_41 : decode cX7_message 41 = .ok (.invokespecial 71, 3) := by decide +kernel
theorem dX7_message_44 : decode cX7_message 44 = .ok (.athrow, 1) := by decide +kernel
theorem dX7_message_45 : decode cX7_message 45 = .ok (.aload_n 0, 1) := by decide +kernel
theorem dX7_message_46 : decode cX7_message 46 = .ok (.getfield 10, 3) := by decide +kernel
theorem dX7_message_49 : decode cX7_message 49 = .ok (.getfield 123, 3) := by decide +kernel
theorem dX7_message_52 : decode cX7_message 52 = .ok (.getfield 219, 3) := by decide +kernel
theorem dX7_message_55 : decode cX7_message 55 = .ok (.iload_n 1, 1) := by decide +kernel
theorem dX7_message_56 : decode cX7_message 56 = .ok (.aaload, 1) := by decide +kernel
theorem dX7_message_57 : decode cX7_message 57 = .ok (.iload_n 2, 1) := by decide +kernel
theorem dX7_message_58 : decode cX7_message 58 = .ok (.aload_n 0, 1) := by decide +kernel
theorem dX7_message_59 : decode cX7_message 59 = .ok (.getfield 10, 3) := by decide +kernel
theorem dX7_message_62 : decode cX7_message 62 = .ok (.getfield 188, 3) := by decide +kernel
theorem dX7_message_65 : decode cX7_message 65 = .ok (.invokevirtual 223, 3) := by decide +kernel
theorem dX7_message_68 : decode cX7_message 68 = .ok (.ireturn, 1) := by decide +kernel
theorem dX7_count_0 : decode cX7_count 0 = .ok (.iload_n 1, 1) := by decide +kernel
theorem dX7_count_1 : decode cX7_count 1 = .ok (.bipush 12, 2) := by decide +kernel
theorem dX7_count_3 : decode cX7_count 3 = .ok (.invokestatic 63, 3) := by decide +kernel
theorem dX7_count_6 : decode cX7_count 6 = .ok (.ifCond .ne 13, 3) := by decide +kernel
theorem dX7_count_9 : decode cX7_count 9 = .ok (.new 67, 3) := by decide +kernel
theorem dX7_count_12 : decode cX7_count 12 = .ok (.dup, 1) := by decide +kernel
theorem dX7_count_13 : decode cX7_count 13 = .ok (.ldc 196, 2) := by decide +kernel
theorem dX7_count_15 : decode cX7_count 15 = .ok (.invokespecial 71, 3) := by decide +kernel
theorem dX7_count_18 : decode cX7_count 18 = .ok (.athrow, 1) := by decide +kernel
theorem dX7_count_19 : decode cX7_count 19 = .ok (.iload_n 1, 1) := by decide +kernel
theorem dX7_count_20 : decode cX7_count 20 = .ok (.bipush 11, 2) := by decide +kernel
theorem dX7_count_22 : decode cX7_count 22 = .ok (.if_icmp .ne 10, 3) := by decide +kernel
theorem dX7_count_25 : decode cX7_count 25 = .ok (.aload_n 0, 1) := by decide +kernel
theorem dX7_count_26 : decode cX7_count 26 = .ok (.getfield 27, 3) := by decide +kernel
theorem dX7_count_29 : decode cX7_count 29 = .ok (.goto 11, 3) := by decide +kernel
theorem dX7_count_32 : decode cX7_count 32 = .ok (.aload_n 0, 1) := by decide +kernel
theorem dX7_count_33 : decode cX7_count 33 = .ok (.getfield 10, 3) := by decide +kernel
theorem dX7_count_36 : decode cX7_count 36 = .ok (.iload_n 1, 1) := by decide +kernel
theorem dX7_count_37 : decode cX7_count 37 = .ok (.invokevirtual 227, 3) := by decide +kernel
theorem dX7_count_40 : decode cX7_count 40 = .ok (.ireturn, 1) := by decide +kernel
theorem dX7_setting_0 : decode cX7_setting 0 = .ok (.iload_n 1, 1) := by decide +kernel
theorem dX7_setting_1 : decode cX7_setting 1 = .ok (.bipush 7, 2) := by decide +kernel
theorem dX7_setting_3 : decode cX7_setting 3 = .ok (.invokestatic 63, 3) := by decide +kernel
theorem dX7_setting_6 : decode cX7_setting 6 = .ok (.ifCond .ne 13, 3) := by decide +kernel
theorem dX7_setting_9 : decode cX7_setting 9 = .ok (.new 58, 3) := by decide +kernel
theorem dX7_setting_12 : decode cX7_setting 12 = .ok (.dup, 1) := by decide +kernel
theorem dX7_setting_13 : decode cX7_setting 13 = .ok (.ldc 143, 2) := by decide +kernel
theorem dX7_setting_15 : decode cX7_setting 15 = .ok (.invokespecial 62, 3) := by decide +kernel
theorem dX7_setting_18 : decode cX7_setting 18 = .ok (.athrow, 1) := by decide +kernel
theorem dX7_setting_19 : decode cX7_setting 19 = .ok (.aload_n 0, 1) := by decide +kernel
theorem dX7_setting_20 : decode cX7_setting 20 = .ok (.getfield 10, 3) := by decide +kernel
theorem dX7_setting_23 : decode cX7_setting 23 = .ok (.getfield 155, 3) := by decide +kernel
theorem dX7_setting_26 : decode cX7_setting 26 = .ok (.iload_n 1, 1) := by decide +kernel
theorem dX7_setting_27 : decode cX7_setting 27 = .ok (.iaload, 1) := by decide +kernel
theorem dX7_setting_28 : decode cX7_setting 28 = .ok (.ireturn, 1) := by decide +kernel
theorem dX7_drainIn_0 : decode cX7_drainIn 0 = .ok (.aload_n 0, 1) := by decide +kernel
theorem dX7_drainIn_1 : decode cX7_drainIn 1 = .ok (.invokevirtual 230, 3) := by decide +kernel
theorem dX7_drainIn_4 : decode cX7_drainIn 4 = .ok (.astore_n 1, 1) := by decide +kernel
theorem dX7_drainIn_5 : decode cX7_drainIn 5 = .ok (.iconst 0, 1) := by decide +kernel
theorem dX7_drainIn_6 : decode cX7_drainIn 6 = .ok (.istore_n 2, 1) := by decide +kernel
theorem dX7_drainIn_7 : decode cX7_drainIn 7 = .ok (.iload_n 2, 1) := by decide +kernel
theorem dX7_drainIn_8 : decode cX7_drainIn 8 = .ok (.sipush 300, 3) := by decide +kernel
theorem dX7_drainIn_11 : decode cX7_drainIn 11 = .ok (.if_icmp .ge 23, 3) := by decide +kernel
theorem dX7_drainIn_14 : decode cX7_drainIn 14 = .ok (.aload_n 1, 1) := by decide +kernel
theorem dX7_drainIn_15 : decode cX7_drainIn 15 = .ok (.invokevirtual 234, 3) := by decide +kernel
theorem dX7_drainIn_18 : decode cX7_drainIn 18 = .ok (.ifCond .eq 5, 3) := by decide +kernel
theorem dX7_drainIn_21 : decode cX7_drainIn 21 = .ok (.iload_n 2, 1) := by decide +kernel
theorem dX7_drainIn_22 : decode cX7_drainIn 22 = .ok (.ireturn, 1) := by decide +kernel
theorem dX7_drainIn_23 : decode cX7_drainIn 23 = .ok (.aload_n 1, 1) := by decide +kernel
theorem dX7_drainIn_24 : decode cX7_drainIn 24 = .ok (.invokevirtual 237, 3) := by decide +kernel
theorem dX7_drainIn_27 : decode cX7_drainIn 27 = .ok (.pop, 1) := by decide +kernel
theorem dX7_drainIn_28 : decode cX7_drainIn 28 = .ok (.iinc 2 1, 3) := by decide +kernel
theorem dX7_drainIn_31 : decode cX7_drainIn 31 = .ok (.goto (-24), 3) := by decide +kernel
theorem dX7_drainIn_34 : decode cX7_drainIn 34 = .ok (.aload_n 1, 1) := by decide +kernel
theorem dX7_drainIn_35 : decode cX7_drainIn 35 = .ok (.invokevirtual 234, 3) := by decide +kernel
theorem dX7_drainIn_38 : decode cX7_drainIn 38 = .ok (.ifCond .eq 9, 3) := by decide +kernel
theorem dX7_drainIn_41 : decode cX7_drainIn 41 = .ok (.sipush 300, 3) := by decide +kernel
theorem dX7_drainIn_44 : decode cX7_drainIn 44 = .ok (.goto 4, 3) := by decide +kernel
theorem dX7_drainIn_47 : decode cX7_drainIn 47 = .ok (.iconst (-1), 1) := by decide +kernel
theorem dX7_drainIn_48 : decode cX7_drainIn 48 = .ok (.ireturn, 1) := by decide +kernel
theorem dX7_ifPassed_0 : decode cX7_ifPassed 0 = .ok (.iload_n 2, 1) := by decide +kernel
theorem dX7_ifPassed_1 : decode cX7_ifPassed 1 = .ok (.iconst 3, 1) := by decide +kernel
theorem dX7_ifPassed_2 : decode cX7_ifPassed 2 = .ok (.invokestatic 63, 3) := by decide +kernel
theorem dX7_ifPassed_5 : decode cX7_ifPassed 5 = .ok (.ifCond .ne 13, 3) := by decide +kernel
theorem dX7_ifPassed_8 : decode cX7_ifPassed 8 = .ok (.new 58, 3) := by decide +kernel
theorem dX7_ifPassed_11 : decode cX7_ifPassed 11 = .ok (.dup, 1) := by decide +kernel
theorem dX7_ifPassed_12 : decode cX7_ifPassed 12 = .ok (.ldc 103, 2) := by decide +kernel
theorem dX7_ifPassed_14 : decode cX7_ifPassed 14 = .ok (.invokespecial 62, 3) := by decide +kernel
theorem dX7_ifPassed_17 : decode cX7_ifPassed 17 = .ok (.athrow, 1) := by decide +kernel
theorem dX7_ifPassed_18 : decode cX7_ifPassed 18 = .ok (.iload_n 1, 1) := by decide +kernel
theorem dX7_ifPassed_19 : decode cX7_ifPassed 19 = .ok (.invokestatic 115, 3) := by decide +kernel
theorem dX7_ifPassed_22 : decode cX7_ifPassed 22 = .ok (.ifCond .eq 11, 3) := by decide +kernel
theorem dX7_ifPassed_25 : decode cX7_ifPassed 25 = .ok (.iload_n 3, 1) := by decide +kernel
theorem dX7_ifPassed_26 : decode cX7_ifPassed 26 = .ok (.iconst 4, 1) := by decide +kernel
theorem dX7_ifPassed_27 : decode cX7_ifPassed 27 = .ok (.invokestatic 63, 3) := by decide +kernel
theorem dX7_ifPassed_30 : decode cX7_ifPassed 30 = .ok (.ifCond .ne 13, 3) := by decide +kernel
theorem dX7_ifPassed_33 : decode cX7_ifPassed 33 = .ok (.new 67, 3) := by decide +kernel
theorem dX7_ifPassed_36 : decode cX7_ifPassed 36 = .ok (.dup, 1) := by decide +kernel
theorem dX7_ifPassed_37 : decode cX7_ifPassed 37 = .ok (.ldc 240, 2) := by decide +kernel
theorem dX7_ifPassed_39 : decode cX7_ifPassed 39 = .ok (.invokespecial 71, 3) := by decide +kernel
theorem dX7_ifPassed_42 : decode cX7_ifPassed 42 = .ok (.athrow, 1) := by decide +kernel
theorem dX7_ifPassed_43 : decode cX7_ifPassed 43 = .ok (.aload_n 0, 1) := by decide +kernel
theorem dX7_ifPassed_44 : decode cX7_ifPassed 44 = .ok (.invokevirtual 230, 3) := by decide +kernel
theorem dX7_ifPassed_47 : decode cX7_ifPassed 47 = .ok (.astore 4, 2) := by decide +kernel
theorem dX7_ifPassed_49 : decode cX7_ifPassed 49 = .ok (.aload 4, 2) := by decide +kernel
theorem dX7_ifPassed_51 : decode cX7_ifPassed 51 = .ok (.iload_n 1, 1) := by decide +kernel
theorem dX7_ifPassed_52 : decode cX7_ifPassed 52 = .ok (.invokevirtual 120, 3) := by decide +kernel
theorem dX7_ifPassed_55 : decode cX7_ifPassed 55 = .ok (.pop, 1) := by decide +kernel
theorem dX7_ifPassed_56 : decode cX7_ifPassed 56 = .ok (.aload 4, 2) := by decide +kernel
theorem dX7_ifPassed_58 : decode cX7_ifPassed 58 = .ok (.getfield 107, 3) := by decide +kernel
theorem dX7_ifPassed_61 : decode cX7_ifPassed 61 = .ok (.iload_n 2, 1) := by decide +kernel
theorem dX7_ifPassed_62 : decode cX7_ifPassed 62 = .ok (.aaload, 1) := by decide +kernel
theorem dX7_ifPassed_63 : decode cX7_ifPassed 63 = .ok (.aload_n 0, 1) := by decide +kernel
theorem dX7_ifPassed_64 : decode cX7_ifPassed 64 = .ok (.getfield 10, 3) := by decide +kernel
theorem dX7_ifPassed_67 : decode cX7_ifPassed 67 = .ok (.getfield 107, 3) := by decide +kernel
theorem dX7_ifPassed_70 : decode cX7_ifPassed 70 = .ok (.iload_n 2, 1) := by decide +kernel
theorem dX7_ifPassed_71 : decode cX7_ifPassed 71 = .ok (.aaload, 1) := by decide +kernel
theorem dX7_ifPassed_72 : decode cX7_ifPassed 72 = .ok (.iload_n 3, 1) := by decide +kernel
theorem dX7_ifPassed_73 : decode cX7_ifPassed 73 = .ok (.invokevirtual 242, 3) := by decide +kernel
theorem dX7_ifPassed_76 : decode cX7_ifPassed 76 = .ok (.ireturn, 1) := by decide +kernel
theorem dX7_skips_0 : decode cX7_skips 0 = .ok (.iload_n 1, 1) := by decide +kernel
theorem dX7_skips_1 : decode cX7_skips 1 = .ok (.iconst 4, 1) := by decide +kernel
theorem dX7_skips_2 : decode cX7_skips 2 = .ok (.invokestatic 63, 3) := by decide +kernel
theorem dX7_skips_5 : decode cX7_skips 5 = .ok (.ifCond .eq 11, 3) := by decide +kernel
theorem dX7_skips_8 : decode cX7_skips 8 = .ok (.iload_n 2, 1) := by decide +kernel
theorem dX7_skips_9 : decode cX7_skips 9 = .ok (.iconst 3, 1) := by decide +kernel
theorem dX7_skips_10 : decode cX7_skips 10 = .ok (.invokestatic 63, 3) := by decide +kernel
theorem dX7_skips_13 : decode cX7_skips 13 = .ok (.ifCond .ne 13, 3) := by decide +kernel
theorem dX7_skips_16 : decode cX7_skips 16 = .ok (.new 58, 3) := by decide +kernel
theorem dX7_skips_19 : decode cX7_skips 19 = .ok (.dup, 1) := by decide +kernel
theorem dX7_skips_20 : decode cX7_skips 20 = .ok (.ldc 246, 2) := by decide +kernel
theorem dX7_skips_22 : decode cX7_skips 22 = .ok (.invokespecial 62, 3) := by decide +kernel
theorem dX7_skips_25 : decode cX7_skips 25 = .ok (.athrow, 1) := by decide +kernel
theorem dX7_skips_26 : decode cX7_skips 26 = .ok (.aload_n 0, 1) := by decide +kernel
theorem dX7_skips_27 : decode cX7_skips 27 = .ok (.getfield 10, 3) := by decide +kernel
theorem dX7_skips_30 : decode cX7_skips 30 = .ok (.iload_n 1, 1) := by decide +kernel
theorem dX7_skips_31 : decode cX7_skips 31 = .ok (.iload_n 2, 1) := by decide +kernel
theorem dX7_skips_32 : decode cX7_skips 32 = .ok (.invokevirtual 248, 3) := by decide +kernel
theorem dX7_skips_35 : decode cX7_skips 35 = .ok (.ireturn, 1) := by decide +kernel
theorem dX7_slowest_0 : decode cX7_slowest 0 = .ok (.iconst (-1), 1) := by decide +kernel
theorem dX7_slowest_1 : decode cX7_slowest 1 = .ok (.istore_n 1, 1) := by decide +kernel
theorem dX7_slowest_2 : decode cX7_slowest 2 = .ok (.iconst 0, 1) := by decide +kernel
theorem dX7_slowest_3 : decode cX7_slowest 3 = .ok (.istore_n 2, 1) := by decide +kernel
theorem dX7_slowest_4 : decode cX7_slowest 4 = .ok (.iconst 0, 1) := by decide +kernel
theorem dX7_slowest_5 : decode cX7_slowest 5 = .ok (.istore_n 3, 1) := by decide +kernel
theorem dX7_slowest_6 : decode cX7_slowest 6 = .ok (.iload_n 3, 1) := by decide +kernel
theorem dX7_slowest_7 : decode cX7_slowest 7 = .ok (.iconst 3, 1) := by decide +kernel
theorem dX7_slowest_8 : decode cX7_slowest 8 = .ok (.if_icmp .ge 30, 3) := by decide +kernel
theorem dX7_slowest_11 : decode cX7_slowest 11 = .ok (.aload_n 0, 1) := by decide +kernel
theorem dX7_slowest_12 : decode cX7_slowest 12 = .ok (.getfield 10, 3) := by decide +kernel
theorem dX7_slowest_15 : decode cX7_slowest 15 = .ok (.iload_n 3, 1) := by decide +kernel
theorem dX7_slowest_16 : decode cX7_slowest 16 = .ok (.invokevirtual 251, 3) := by decide +kernel
theorem dX7_slowest_19 : decode cX7_slowest 19 = .ok (.istore 4, 2) := by decide +kernel
theorem dX7_slowest_21 : decode cX7_slowest 21 = .ok (.iload 4, 2) := by decide +kernel
theorem dX7_slowest_23 : decode cX7_slowest 23 = .ok (.iload_n 2, 1) := by decide +kernel
theorem dX7_slowest_24 : decode cX7_slowest 24 = .ok (.if_icmp .le 8, 3) := by decide +kernel
theorem dX7_slowest_27 : decode cX7_slowest 27 = .ok (.iload 4, 2) := by decide +kernel
theorem dX7_slowest_29 : decode cX7_slowest 29 = .ok (.istore_n 2, 1) := by decide +kernel
theorem dX7_slowest_30 : decode cX7_slowest 30 = .ok (.iload_n 3, 1) := by decide +kernel
theorem dX7_slowest_31 : decode cX7_slowest 31 = .ok (.istore_n 1, 1) := by decide +kernel
theorem dX7_slowest_32 : decode cX7_slowest 32 = .ok (.iinc 3 1, 3) := by decide +kernel
theorem dX7_slowest_35 : decode cX7_slowest 35 = .ok (.goto (-29), 3) := by decide +kernel
theorem dX7_slowest_38 : decode cX7_slowest 38 = .ok (.iload_n 1, 1) := by decide +kernel
theorem dX7_slowest_39 : decode cX7_slowest 39 = .ok (.ireturn, 1) := by decide +kernel
theorem dX7_goodShare_0 : decode cX7_goodShare 0 = .ok (.aload_n 0, 1) := by decide +kernel
theorem dX7_goodShare_1 : decode cX7_goodShare 1 = .ok (.getfield 10, 3) := by decide +kernel
theorem dX7_goodShare_4 : decode cX7_goodShare 4 = .ok (.getfield 123, 3) := by decide +kernel
theorem dX7_goodShare_7 : decode cX7_goodShare 7 = .ok (.astore_n 1, 1) := by decide +kernel
theorem dX7_goodShare_8 : decode cX7_goodShare 8 = .ok (.aload_n 1, 1) := by decide +kernel
theorem dX7_goodShare_9 : decode cX7_goodShare 9 = .ok (.getfield 254, 3) := by decide +kernel
theorem dX7_goodShare_12 : decode cX7_goodShare 12 = .ok (.ifCond .gt 7, 3) := by decide +kernel
theorem dX7_goodShare_15 : decode cX7_goodShare 15 = .ok (.dconst 1, 1) := by decide +kernel
theorem dX7_goodShare_16 : decode cX7_goodShare 16 = .ok (.goto 19, 3) := by decide +kernel
theorem dX7_goodShare_19 : decode cX7_goodShare 19 = .ok (.aload_n 1, 1) := by decide +kernel
theorem dX7_goodShare_20 : decode cX7_goodShare 20 = .ok (.getfield 254, 3) := by decide +kernel
theorem dX7_goodShare_23 : decode cX7_goodShare 23 = .ok (.aload_n 1, 1) := by decide +kernel
theorem dX7_goodShare_24 : decode cX7_goodShare 24 = .ok (.getfield 137, 3) := by decide +kernel
theorem dX7_goodShare_27 : decode cX7_goodShare 27 = .ok (.isub, 1) := by decide +kernel
theorem dX7_goodShare_28 : decode cX7_goodShare 28 = .ok (.i2d, 1) := by decide +kernel
theorem dX7_goodShare_29 : decode cX7_goodShare 29 = .ok (.aload_n 1, 1) := by decide +kernel
theorem dX7_goodShare_30 : decode cX7_goodShare 30 = .ok (.getfield 254, 3) := by decide +kernel
theorem dX7_goodShare_33 : decode cX7_goodShare 33 = .ok (.i2d, 1) := by decide +kernel
theorem dX7_goodShare_34 : decode cX7_goodShare 34 = .ok (.ddiv, 1) := by decide +kernel
theorem dX7_goodShare_35 : decode cX7_goodShare 35 = .ok (.dreturn, 1) := by decide +kernel
theorem dX7_meanBatch_0 : decode cX7_meanBatch 0 = .ok (.aload_n 0, 1) := by decide +kernel
theorem dX7_meanBatch_1 : decode cX7_meanBatch 1 = .ok (.getfield 10, 3) := by decide +kernel
theorem dX7_meanBatch_4 : decode cX7_meanBatch 4 = .ok (.getfield 123, 3) := by decide +kernel
theorem dX7_meanBatch_7 : decode cX7_meanBatch 7 = .ok (.astore_n 1, 1) := by decide +kernel
theorem dX7_meanBatch_8 : decode cX7_meanBatch 8 = .ok (.aload_n 1, 1) := by decide +kernel
theorem dX7_meanBatch_9 : decode cX7_meanBatch 9 = .ok (.getfield 257, 3) := by decide +kernel
theorem dX7_meanBatch_12 : decode cX7_meanBatch 12 = .ok (.ifCond .gt 7, 3) := by decide +kernel
theorem dX7_meanBatch_15 : decode cX7_meanBatch 15 = .ok (.fconst 0, 1) := by decide +kernel
theorem dX7_meanBatch_16 : decode cX7_meanBatch 16 = .ok (.goto 14, 3) := by decide +kernel
theorem dX7_meanBatch_19 : decode cX7_meanBatch 19 = .ok (.aload_n 1, 1) := by decide +kernel
theorem dX7_meanBatch_20 : decode cX7_meanBatch 20 = .ok (.getfield 260, 3) := by decide +kernel
theorem dX7_meanBatch_23 : decode cX7_meanBatch 23 = .ok (.i2f, 1) := by decide +kernel
theorem dX7_meanBatch_24 : decode cX7_meanBatch 24 = .ok (.aload_n 1, 1) := by decide +kernel
theorem dX7_meanBatch_25 : decode cX7_meanBatch 25 = .ok (.getfield 257, 3) := by decide +kernel
theorem dX7_meanBatch_28 : decode cX7_meanBatch 28 = .ok (.i2f, 1) := by decide +kernel
theorem dX7_meanBatch_29 : decode cX7_meanBatch 29 = .ok (.fdiv, 1) := by decide +kernel
theorem dX7_meanBatch_30 : decode cX7_meanBatch 30 = .ok (.freturn, 1) := by decide +kernel
theorem dX7_digest_0 : decode cX7_digest 0 = .ok (.ldc2_w 263, 3) := by decide +kernel
theorem dX7_digest_3 : decode cX7_digest 3 = .ok (.lstore_n 1, 1) := by decide +kernel
theorem dX7_digest_4 : decode cX7_digest 4 = .ok (.iconst 0, 1) := by decide +kernel
theorem dX7_digest_5 : decode cX7_digest 5 = .ok (.istore_n 3, 1) := by decide +kernel
theorem dX7_digest_6 : decode cX7_digest 6 = .ok (.iload_n 3, 1) := by decide +kernel
theorem dX7_digest_7 : decode cX7_digest 7 = .ok (.bipush 12, 2) := by decide +kernel
theorem dX7_digest_9 : decode cX7_digest 9 = .ok (.if_icmp .ge 20, 3) := by decide +kernel
theorem dX7_digest_12 : decode cX7_digest 12 = .ok (.lload_n 1, 1) := by decide +kernel
theorem dX7_digest_13 : decode cX7_digest 13 = .ok (.aload_n 0, 1) := by decide +kernel
theorem dX7_digest_14 : decode cX7_digest 14 = .ok (.iload_n 3, 1) := by decide +kernel
theorem dX7_digest_15 : decode cX7_digest 15 = .ok (.invokevirtual 265, 3) := by decide +kernel
theorem dX7_digest_18 : decode cX7_digest 18 = .ok (.i2l, 1) := by decide +kernel
theorem dX7_digest_19 : decode cX7_digest 19 = .ok (.invokestatic 268, 3) := by decide +kernel
theorem dX7_digest_22 : decode cX7_digest 22 = .ok (.lstore_n 1, 1) := by decide +kernel
theorem dX7_digest_23 : decode cX7_digest 23 = .ok (.iinc 3 1, 3) := by decide +kernel
theorem dX7_digest_26 : decode cX7_digest 26 = .ok (.goto (-20), 3) := by decide +kernel
theorem dX7_digest_29 : decode cX7_digest 29 = .ok (.iconst 0, 1) := by decide +kernel
theorem dX7_digest_30 : decode cX7_digest 30 = .ok (.istore_n 3, 1) := by decide +kernel
theorem dX7_digest_31 : decode cX7_digest 31 = .ok (.iload_n 3, 1) := by decide +kernel
theorem dX7_digest_32 : decode cX7_digest 32 = .ok (.bipush 7, 2) := by decide +kernel
theorem dX7_digest_34 : decode cX7_digest 34 = .ok (.if_icmp .ge 24, 3) := by decide +kernel
theorem dX7_digest_37 : decode cX7_digest 37 = .ok (.lload_n 1, 1) := by decide +kernel
theorem dX7_digest_38 : decode cX7_digest 38 = .ok (.aload_n 0, 1) := by decide +kernel
theorem dX7_digest_39 : decode cX7_digest 39 = .ok (.getfield 10, 3) := by decide +kernel
theorem dX7_digest_42 : decode cX7_digest 42 = .ok (.getfield 155, 3) := by decide +kernel
theorem dX7_digest_45 : decode cX7_digest 45 = .ok (.iload_n 3, 1) := by decide +kernel
theorem dX7_digest_46 : decode cX7_digest 46 = .ok (.iaload, 1) := by decide +kernel
theorem dX7_digest_47 : decode cX7_digest 47 = .ok (.i2l, 1) := by decide +kernel
theorem dX7_digest_48 : decode cX7_digest 48 = .ok (.invokestatic 268, 3) := by decide +kernel
theorem dX7_digest_51 : decode cX7_digest 51 = .ok (.lstore_n 1, 1) := by decide +kernel
theorem dX7_digest_52 : decode cX7_digest 52 = .ok (.iinc 3 1, 3) := by decide +kernel
theorem dX7_digest_55 : decode cX7_digest 55 = .ok (.goto (-24), 3) := by decide +kernel
theorem dX7_digest_58 : decode cX7_digest 58 = .ok (.aload_n 0, 1) := by decide +kernel
theorem dX7_digest_59 : decode cX7_digest 59 = .ok (.lload_n 1, 1) := by decide +kernel
theorem dX7_digest_60 : decode cX7_digest 60 = .ok (.invokevirtual 272, 3) := by decide +kernel
theorem dX7_digest_63 : decode cX7_digest 63 = .ok (.lstore_n 1, 1) := by decide +kernel
theorem dX7_digest_64 : decode cX7_digest 64 = .ok (.aload_n 0, 1) := by decide +kernel
theorem dX7_digest_65 : decode cX7_digest 65 = .ok (.lload_n 1, 1) := by decide +kernel
theorem dX7_digest_66 : decode cX7_digest 66 = .ok (.invokevirtual 276, 3) := by decide +kernel
theorem dX7_digest_69 : decode cX7_digest 69 = .ok (.lstore_n 1, 1) := by decide +kernel
theorem dX7_digest_70 : decode cX7_digest 70 = .ok (.aload_n 0, 1) := by decide +kernel
theorem dX7_digest_71 : decode cX7_digest 71 = .ok (.lload_n 1, 1) := by decide +kernel
theorem dX7_digest_72 : decode cX7_digest 72 = .ok (.invokevirtual 279, 3) := by decide +kernel
theorem dX7_digest_75 : decode cX7_digest 75 = .ok (.lstore_n 1, 1) := by decide +kernel
theorem dX7_digest_76 : decode cX7_digest 76 = .ok (.aload_n 0, 1) := by decide +kernel
theorem dX7_digest_77 : decode cX7_digest 77 = .ok (.lload_n 1, 1) := by decide +kernel
theorem dX7_digest_78 : decode cX7_digest 78 = .ok (.invokevirtual 282, 3) := by decide +kernel
theorem dX7_digest_81 : decode cX7_digest 81 = .ok (.lstore_n 1, 1) := by decide +kernel
theorem dX7_digest_82 : decode cX7_digest 82 = .ok (.lload_n 1, 1) := by decide +kernel
theorem dX7_digest_83 : decode cX7_digest 83 = .ok (.aload_n 0, 1) := by decide +kernel
theorem dX7_digest_84 : decode cX7_digest 84 = .ok (.invokevirtual 285, 3) := by decide +kernel
theorem dX7_digest_87 : decode cX7_digest 87 = .ok (.i2l, 1) := by decide +kernel
theorem dX7_digest_88 : decode cX7_digest 88 = .ok (.invokestatic 268, 3) := by decide +kernel
theorem dX7_digest_91 : decode cX7_digest 91 = .ok (.lstore_n 1, 1) := by decide +kernel
theorem dX7_digest_92 : decode cX7_digest 92 = .ok (.lload_n 1, 1) := by decide +kernel
theorem dX7_digest_93 : decode cX7_digest 93 = .ok (.aload_n 0, 1) := by decide +kernel
theorem dX7_digest_94 : decode cX7_digest 94 = .ok (.invokevirtual 288, 3) := by decide +kernel
theorem dX7_digest_97 : decode cX7_digest 97 = .ok (.i2l, 1) := by decide +kernel
theorem dX7_digest_98 : decode cX7_digest 98 = .ok (.invokestatic 268, 3) := by decide +kernel
theorem dX7_digest_101 : decode cX7_digest 101 = .ok (.lstore_n 1, 1) := by decide +kernel
theorem dX7_digest_102 : decode cX7_digest 102 = .ok (.lload_n 1, 1) := by decide +kernel
theorem dX7_digest_103 : decode cX7_digest 103 = .ok (.aload_n 0, 1) := by decide +kernel
theorem dX7_digest_104 : decode cX7_digest 104 = .ok (.invokevirtual 291, 3) := by decide +kernel
theorem dX7_digest_107 : decode cX7_digest 107 = .ok (.sipush 1023, 3) := by decide +kernel
theorem dX7_digest_110 : decode cX7_digest 110 = .ok (.bipush 52, 2) := by decide +kernel
theorem dX7_digest_112 : decode cX7_digest 112 = .ok (.invokestatic 295, 3) := by decide +kernel
theorem dX7_digest_115 : decode cX7_digest 115 = .ok (.invokestatic 268, 3) := by decide +kernel
theorem dX7_digest_118 : decode cX7_digest 118 = .ok (.lstore_n 1, 1) := by decide +kernel
theorem dX7_digest_119 : decode cX7_digest 119 = .ok (.lload_n 1, 1) := by decide +kernel
theorem dX7_digest_120 : decode cX7_digest 120 = .ok (.aload_n 0, 1) := by decide +kernel
theorem dX7_digest_121 : decode cX7_digest 121 = .ok (.invokevirtual 299, 3) := by decide +kernel
theorem dX7_digest_124 : decode cX7_digest 124 = .ok (.f2d, 1) := by decide +kernel
theorem dX7_digest_125 : decode cX7_digest 125 = .ok (.bipush 127, 2) := by decide +kernel
theorem dX7_digest_127 : decode cX7_digest 127 = .ok (.bipush 23, 2) := by decide +kernel
theorem dX7_digest_129 : decode cX7_digest 129 = .ok (.invokestatic 295, 3) := by decide +kernel
theorem dX7_digest_132 : decode cX7_digest 132 = .ok (.invokestatic 268, 3) := by decide +kernel
theorem dX7_digest_135 : decode cX7_digest 135 = .ok (.lstore_n 1, 1) := by decide +kernel
theorem dX7_digest_136 : decode cX7_digest 136 = .ok (.lload_n 1, 1) := by decide +kernel
theorem dX7_digest_137 : decode cX7_digest 137 = .ok (.aload_n 0, 1) := by decide +kernel
theorem dX7_digest_138 : decode cX7_digest 138 = .ok (.getfield 31, 3) := by decide +kernel
theorem dX7_digest_141 : decode cX7_digest 141 = .ok (.ifnonnull 7, 3) := by decide +kernel
theorem dX7_digest_144 : decode cX7_digest 144 = .ok (.lconst 0, 1) := by decide +kernel
theorem dX7_digest_145 : decode cX7_digest 145 = .ok (.goto 4, 3) := by decide +kernel
theorem dX7_digest_148 : decode cX7_digest 148 = .ok (.lconst 1, 1) := by decide +kernel
theorem dX7_digest_149 : decode cX7_digest 149 = .ok (.invokestatic 268, 3) := by decide +kernel
theorem dX7_digest_152 : decode cX7_digest 152 = .ok (.lstore_n 1, 1) := by decide +kernel
theorem dX7_digest_153 : decode cX7_digest 153 = .ok (.aload_n 0, 1) := by decide +kernel
theorem dX7_digest_154 : decode cX7_digest 154 = .ok (.lload_n 1, 1) := by decide +kernel
theorem dX7_digest_155 : decode cX7_digest 155 = .ok (.invokevirtual 303, 3) := by decide +kernel
theorem dX7_digest_158 : decode cX7_digest 158 = .ok (.lreturn, 1) := by decide +kernel
theorem dX7_withRows_0 : decode cX7_withRows 0 = .ok (.lload_n 1, 1) := by decide +kernel
theorem dX7_withRows_1 : decode cX7_withRows 1 = .ok (.lstore_n 3, 1) := by decide +kernel
theorem dX7_withRows_2 : decode cX7_withRows 2 = .ok (.iconst 0, 1) := by decide +kernel
theorem dX7_withRows_3 : decode cX7_withRows 3 = .ok (.istore 5, 2) := by decide +kernel
theorem dX7_withRows_5 : decode cX7_withRows 5 = .ok (.iload 5, 2) := by decide +kernel
theorem dX7_withRows_7 : decode cX7_withRows 7 = .ok (.aload_n 0, 1) := by decide +kernel
theorem dX7_withRows_8 : decode cX7_withRows 8 = .ok (.getfield 10, 3) := by decide +kernel
theorem dX7_withRows_11 : decode cX7_withRows 11 = .ok (.getfield 90, 3) := by decide +kernel
theorem dX7_withRows_14 : decode cX7_withRows 14 = .ok (.getfield 94, 3) := by decide +kernel
theorem dX7_withRows_17 : decode cX7_withRows 17 = .ok (.if_icmp .ge 53, 3) := by decide +kernel
theorem dX7_withRows_20 : decode cX7_withRows 20 = .ok (.iconst 0, 1) := by decide +kernel
theorem dX7_withRows_21 : decode cX7_withRows 21 = .ok (.istore 6, 2) := by decide +kernel
theorem dX7_withRows_23 : decode cX7_withRows 23 = .ok (.iload 6, 2) := by decide +kernel
theorem dX7_withRows_25 : decode cX7_withRows 25 = .ok (.bipush 8, 2) := by decide +kernel
theorem dX7_withRows_27 : decode cX7_withRows 27 = .ok (.if_icmp .ge 37, 3) := by decide +kernel
theorem dX7_withRows_30 : decode cX7_withRows 30 = .ok (.lload_n 3, 1) := by decide +kernel
theorem dX7_withRows_31 : decode cX7_withRows 31 = .ok (.aload_n 0, 1) := by decide +kernel
theorem dX7_withRows_32 : decode cX7_withRows 32 = .ok (.getfield 10, 3) := by decide +kernel
theorem dX7_withRows_35 : decode cX7_withRows 35 = .ok (.aload_n 0, 1) := by decide +kernel
theorem dX7_withRows_36 : decode cX7_withRows 36 = .ok (.getfield 10, 3) := by decide +kernel
theorem dX7_withRows_39 : decode cX7_withRows 39 = .ok (.getfield 90, 3) := by decide +kernel
theorem dX7_withRows_42 : decode cX7_withRows 42 = .ok (.getfield 198, 3) := by decide +kernel
theorem dX7_withRows_45 : decode cX7_withRows 45 = .ok (.iload 5, 2) := by decide +kernel
theorem dX7_withRows_47 : decode cX7_withRows 47 = .ok (.iaload, 1) := by decide +kernel
theorem dX7_withRows_48 : decode cX7_withRows 48 = .ok (.iload 6, 2) := by decide +kernel
theorem dX7_withRows_50 : decode cX7_withRows 50 = .ok (.invokevirtual 201, 3) := by decide +kernel
theorem dX7_withRows_53 : decode cX7_withRows 53 = .ok (.i2l, 1) := by decide +kernel
theorem dX7_withRows_54 : decode cX7_withRows 54 = .ok (.invokestatic 268, 3) := by decide +kernel
theorem dX7_withRows_57 : decode cX7_withRows 57 = .ok (.lstore_n 3, 1) := by decide +kernel
theorem dX7_withRows_58 : decode cX7_withRows 58 = .ok (.iinc 6 1, 3) := by decide +kernel
theorem dX7_withRows_61 : decode cX7_withRows 61 = .ok (.goto (-38), 3) := by decide +kernel
theorem dX7_withRows_64 : decode cX7_withRows 64 = .ok (.iinc 5 1, 3) := by decide +kernel
theorem dX7_withRows_67 : decode cX7_withRows 67 = .ok (.goto (-62), 3) := by decide +kernel
theorem dX7_withRows_70 : decode cX7_withRows 70 = .ok (.lload_n 3, 1) := by decide +kernel
theorem dX7_withRows_71 : decode cX7_withRows 71 = .ok (.lreturn, 1) := by decide +kernel
theorem dX7_withPlaces_0 : decode cX7_withPlaces 0 = .ok (.lload_n 1, 1) := by decide +kernel
theorem dX7_withPlaces_1 : decode cX7_withPlaces 1 = .ok (.lstore_n 3, 1) := by decide +kernel
theorem dX7_withPlaces_2 : decode cX7_withPlaces 2 = .ok (.iconst 0, 1) := by decide +kernel
theorem dX7_withPlaces_3 : decode cX7_withPlaces 3 = .ok (.istore 5, 2) := by decide +kernel
theorem dX7_withPlaces_5 : decode cX7_withPlaces 5 = .ok (.iload 5, 2) := by decide +kernel
theorem dX7_withPlaces_7 : decode cX7_withPlaces 7 = .ok (.iconst 4, 1) := by decide +kernel
theorem dX7_withPlaces_8 : decode cX7_withPlaces 8 = .ok (.if_icmp .ge 77, 3) := by decide +kernel
theorem dX7_withPlaces_11 : decode cX7_withPlaces 11 = .ok (.iconst 0, 1) := by decide +kernel
theorem dX7_withPlaces_12 : decode cX7_withPlaces 12 = .ok (.istore 6, 2) := by decide +kernel
theorem dX7_withPlaces_14 : decode cX7_withPlaces 14 = .ok (.iload 6, 2) := by decide +kernel
theorem dX7_withPlaces_16 : decode cX7_withPlaces 16 = .ok (.iconst 3, 1) := by decide +kernel
theorem dX7_withPlaces_17 : decode cX7_withPlaces 17 = .ok (.if_icmp .ge 30, 3) := by decide +kernel
theorem dX7_withPlaces_20 : decode cX7_withPlaces 20 = .ok (.lload_n 3, 1) := by decide +kernel
theorem dX7_withPlaces_21 : decode cX7_withPlaces 21 = .ok (.aload_n 0, 1) := by decide +kernel
theorem dX7_withPlaces_22 : decode cX7_withPlaces 22 = .ok (.getfield 10, 3) := by decide +kernel
theorem dX7_withPlaces_25 : decode cX7_withPlaces 25 = .ok (.getfield 207, 3) := by decide +kernel
theorem dX7_withPlaces_28 : decode cX7_withPlaces 28 = .ok (.iload 5, 2) := by decide +kernel
theorem dX7_withPlaces_30 : decode cX7_withPlaces 30 = .ok (.aaload, 1) := by decide +kernel
theorem dX7_withPlaces_31 : decode cX7_withPlaces 31 = .ok (.iload 6, 2) := by decide +kernel
theorem dX7_withPlaces_33 : decode cX7_withPlaces 33 = .ok (.invokevirtual 211, 3) := by decide +kernel
theorem dX7_withPlaces_36 : decode cX7_withPlaces 36 = .ok (.i2l, 1) := by decide +kernel
theorem dX7_withPlaces_37 : decode cX7_withPlaces 37 = .ok (.invokestatic 268, 3) := by decide +kernel
theorem dX7_withPlaces_40 : decode cX7_withPlaces 40 = .ok (.lstore_n 3, 1) := by decide +kernel
theorem dX7_withPlaces_41 : decode cX7_withPlaces 41 = .ok (.iinc 6 1, 3) := by decide +kernel
theorem dX7_withPlaces_44 : decode cX7_withPlaces 44 = .ok (.goto (-30), 3) := by decide +kernel
theorem dX7_withPlaces_47 : decode cX7_withPlaces 47 = .ok (.iconst 0, 1) := by decide +kernel
theorem dX7_withPlaces_48 : decode cX7_withPlaces 48 = .ok (.istore 6, 2) := by decide +kernel
theorem dX7_withPlaces_50 : decode cX7_withPlaces 50 = .ok (.iload 6, 2) := by decide +kernel
theorem dX7_withPlaces_52 : decode cX7_withPlaces 52 = .ok (.iconst 3, 1) := by decide +kernel
theorem dX7_withPlaces_53 : decode cX7_withPlaces 53 = .ok (.if_icmp .ge 26, 3) := by decide +kernel
theorem dX7_withPlaces_56 : decode cX7_withPlaces 56 = .ok (.lload_n 3, 1) := by decide +kernel
theorem dX7_withPlaces_57 : decode cX7_withPlaces 57 = .ok (.aload_n 0, 1) := by decide +kernel
theorem dX7_withPlaces_58 : decode cX7_withPlaces 58 = .ok (.getfield 10, 3) := by decide +kernel
theorem dX7_withPlaces_61 : decode cX7_withPlaces 61 = .ok (.iload 5, 2) := by decide +kernel
theorem dX7_withPlaces_63 : decode cX7_withPlaces 63 = .ok (.iload 6, 2) := by decide +kernel
theorem dX7_withPlaces_65 : decode cX7_withPlaces 65 = .ok (.invokevirtual 248, 3) := by decide +kernel
theorem dX7_withPlaces_68 : decode cX7_withPlaces 68 = .ok (.i2l, 1) := by decide +kernel
theorem dX7_withPlaces_69 : decode cX7_withPlaces 69 = .ok (.invokestatic 268, 3) := by decide +kernel
theorem dX7_withPlaces_72 : decode cX7_withPlaces 72 = .ok (.lstore_n 3, 1) := by decide +kernel
theorem dX7_withPlaces_73 : decode cX7_withPlaces 73 = .ok (.iinc 6 1, 3) := by decide +kernel
theorem dX7_withPlaces_76 : decode cX7_withPlaces 76 = .ok (.goto (-26), 3) := by decide +kernel
theorem dX7_withPlaces_79 : decode cX7_withPlaces 79 = .ok (.iinc 5 1, 3) := by decide +kernel
theorem dX7_withPlaces_82 : decode cX7_withPlaces 82 = .ok (.goto (-77), 3) := by decide +kernel
theorem dX7_withPlaces_85 : decode cX7_withPlaces 85 = .ok (.lload_n 3, 1) := by decide +kernel
theorem dX7_withPlaces_86 : decode cX7_withPlaces 86 = .ok (.lreturn, 1) := by decide +kernel
theorem dX7_withReceivers_0 : decode cX7_withReceivers 0 = .ok (.lload_n 1, 1) := by decide +kernel
theorem dX7_withReceivers_1 : decode cX7_withReceivers 1 = .ok (.lstore_n 3, 1) := by decide +kernel
theorem dX7_withReceivers_2 : decode cX7_withReceivers 2 = .ok (.aload_n 0, 1) := by decide +kernel
theorem dX7_withReceivers_3 : decode cX7_withReceivers 3 = .ok (.invokevirtual 230, 3) := by decide +kernel
theorem dX7_withReceivers_6 : decode cX7_withReceivers 6 = .ok (.astore 5, 2) := by decide +kernel
theorem dX7_withReceivers_8 : decode cX7_withReceivers 8 = .ok (.aload 5, 2) := by decide +kernel
theorem dX7_withReceivers_10 : decode cX7_withReceivers 10 = .ok (.bipush 10, 2) := by decide +kernel
theorem dX7_withReceivers_12 : decode cX7_withReceivers 12 = .ok (.invokevirtual 120, 3) := by decide +kernel
theorem dX7_withReceivers_15 : decode cX7_withReceivers 15 = .ok (.pop, 1) := by decide +kernel
theorem dX7_withReceivers_16 : decode cX7_withReceivers 16 = .ok (.iconst 0, 1) := by decide +kernel
theorem dX7_withReceivers_17 : decode cX7_withReceivers 17 = .ok (.istore 6, 2) := by decide +kernel
theorem dX7_withReceivers_19 : decode cX7_withReceivers 19 = .ok (.iload 6, 2) := by decide +kernel
theorem dX7_withReceivers_21 : decode cX7_withReceivers 21 = .ok (.iconst 3, 1) := by decide +kernel
theorem dX7_withReceivers_22 : decode cX7_withReceivers 22 = .ok (.if_icmp .ge 123, 3) := by decide +kernel
theorem dX7_withReceivers_25 : decode cX7_withReceivers 25 = .ok (.aload_n 0, 1) := by decide +kernel
theorem dX7_withReceivers_26 : decode cX7_withReceivers 26 = .ok (.getfield 10, 3) := by decide +kernel
theorem dX7_withReceivers_29 : decode cX7_withReceivers 29 = .ok (.getfield 107, 3) := by decide +kernel
theorem dX7_withReceivers_32 : decode cX7_withReceivers 32 = .ok (.iload 6, 2) := by decide +kernel
theorem dX7_withReceivers_34 : decode cX7_withReceivers 34 = .ok (.aaload, 1) := by decide +kernel
theorem dX7_withReceivers_35 : decode cX7_withReceivers 35 = .ok (.astore 7, 2) := by decide +kernel
theorem dX7_withReceivers_37 : decode cX7_withReceivers 37 = .ok (.iconst 0, 1) := by decide +kernel
theorem dX7_withReceivers_38 : decode cX7_withReceivers 38 = .ok (.istore 8, 2) := by decide +kernel
theorem dX7_withReceivers_40 : decode cX7_withReceivers 40 = .ok (.iload 8, 2) := by decide +kernel
theorem dX7_withReceivers_42 : decode cX7_withReceivers 42 = .ok (.bipush 14, 2) := by decide +kernel
theorem dX7_withReceivers_44 : decode cX7_withReceivers 44 = .ok (.if_icmp .ge 26, 3) := by decide +kernel
theorem dX7_withReceivers_47 : decode cX7_withReceivers 47 = .ok (.lload_n 3, 1) := by decide +kernel
theorem dX7_withReceivers_48 : decode cX7_withReceivers 48 = .ok (.aload_n 0, 1) := by decide +kernel
theorem dX7_withReceivers_49 : decode cX7_withReceivers 49 = .ok (.getfield 10, 3) := by decide +kernel
theorem dX7_withReceivers_52 : decode cX7_withReceivers 52 = .ok (.iload 6, 2) := by decide +kernel
theorem dX7_withReceivers_54 : decode cX7_withReceivers 54 = .ok (.iload 8, 2) := by decide +kernel
theorem dX7_withReceivers_56 : decode cX7_withReceivers 56 = .ok (.invokevirtual 216, 3) := by decide +kernel
theorem dX7_withReceivers_59 : decode cX7_withReceivers 59 = .ok (.i2l, 1) := by decide +kernel
theorem dX7_withReceivers_60 : decode cX7_withReceivers 60 = .ok (.invokestatic 268, 3) := by decide +kernel
theorem dX7_withReceivers_63 : decode cX7_withReceivers 63 = .ok (.lstore_n 3, 1) := by decide +kernel
theorem dX7_withReceivers_64 : decode cX7_withReceivers 64 = .ok (.iinc 8 1, 3) := by decide +kernel
theorem dX7_withReceivers_67 : decode cX7_withReceivers 67 = .ok (.goto (-27), 3) := by decide +kernel
theorem dX7_withReceivers_70 : decode cX7_withReceivers 70 = .ok (.iconst 0, 1) := by decide +kernel
theorem dX7_withReceivers_71 : decode cX7_withReceivers 71 = .ok (.istore 8, 2) := by decide +kernel
theorem dX7_withReceivers_73 : decode cX7_withReceivers 73 = .ok (.iload 8, 2) := by decide +kernel
theorem dX7_withReceivers_75 : decode cX7_withReceivers 75 = .ok (.aload 7, 2) := by decide +kernel
theorem dX7_withReceivers_77 : decode cX7_withReceivers 77 = .ok (.getfield 306, 3) := by decide +kernel
theorem dX7_withReceivers_80 : decode cX7_withReceivers 80 = .ok (.if_icmp .ge 23, 3) := by decide +kernel
theorem dX7_withReceivers_83 : decode cX7_withReceivers 83 = .ok (.lload_n 3, 1) := by decide +kernel
theorem dX7_withReceivers_84 : decode cX7_withReceivers 84 = .ok (.aload 7, 2) := by decide +kernel
theorem dX7_withReceivers_86 : decode cX7_withReceivers 86 = .ok (.getfield 309, 3) := by decide +kernel
theorem dX7_withReceivers_89 : decode cX7_withReceivers 89 = .ok (.iload 8, 2) := by decide +kernel
theorem dX7_withReceivers_91 : decode cX7_withReceivers 91 = .ok (.iaload, 1) := by decide +kernel
theorem dX7_withReceivers_92 : decode cX7_withReceivers 92 = .ok (.i2l, 1) := by decide +kernel
theorem dX7_withReceivers_93 : decode cX7_withReceivers 93 = .ok (.invokestatic 268, 3) := by decide +kernel
theorem dX7_withReceivers_96 : decode cX7_withReceivers 96 = .ok (.lstore_n 3, 1) := by decide +kernel
theorem dX7_withReceivers_97 : decode cX7_withReceivers 97 = .ok (.iinc 8 1, 3) := by decide +kernel
theorem dX7_withReceivers_100 : decode cX7_withReceivers 100 = .ok (.goto (-27), 3) := by decide +kernel
theorem dX7_withReceivers_103 : decode cX7_withReceivers 103 = .ok (.iconst 0, 1) := by decide +kernel
theorem dX7_withReceivers_104 : decode cX7_withReceivers 104 = .ok (.istore 8, 2) := by decide +kernel
theorem dX7_withReceivers_106 : decode cX7_withReceivers 106 = .ok (.iload 8, 2) := by decide +kernel
theorem dX7_withReceivers_108 : decode cX7_withReceivers 108 = .ok (.iconst 4, 1) := by decide +kernel
theorem dX7_withReceivers_109 : decode cX7_withReceivers 109 = .ok (.if_icmp .ge 30, 3) := by decide +kernel
theorem dX7_withReceivers_112 : decode cX7_withReceivers 112 = .ok (.lload_n 3, 1) := by decide +kernel
theorem dX7_withReceivers_113 : decode cX7_withReceivers 113 = .ok (.aload 5, 2) := by decide +kernel
theorem dX7_withReceivers_115 : decode cX7_withReceivers 115 = .ok (.getfield 107, 3) := by decide +kernel
theorem dX7_withReceivers_118 : decode cX7_withReceivers 118 = .ok (.iload 6, 2) := by decide +kernel
theorem dX7_withReceivers_120 : decode cX7_withReceivers 120 = .ok (.aaload, 1) := by decide +kernel
theorem dX7_withReceivers_121 : decode cX7_withReceivers 121 = .ok (.aload 7, 2) := by decide +kernel
theorem dX7_withReceivers_123 : decode cX7_withReceivers 123 = .ok (.iload 8, 2) := by decide +kernel
theorem dX7_withReceivers_125 : decode cX7_withReceivers 125 = .ok (.invokevirtual 242, 3) := by decide +kernel
theorem dX7_withReceivers_128 : decode cX7_withReceivers 128 = .ok (.i2l, 1) := by decide +kernel
theorem dX7_withReceivers_129 : decode cX7_withReceivers 129 = .ok (.invokestatic 268, 3) := by decide +kernel
theorem dX7_withReceivers_132 : decode cX7_withReceivers 132 = .ok (.lstore_n 3, 1) := by decide +kernel
theorem dX7_withReceivers_133 : decode cX7_withReceivers 133 = .ok (.iinc 8 1, 3) := by decide +kernel
theorem dX7_withReceivers_136 : decode cX7_withReceivers 136 = .ok (.goto (-30), 3) := by decide +kernel
theorem dX7_withReceivers_139 : decode cX7_withReceivers 139 = .ok (.iinc 6 1, 3) := by decide +kernel
theorem dX7_withReceivers_142 : decode cX7_withReceivers 142 = .ok (.goto (-123), 3) := by decide +kernel
theorem dX7_withReceivers_145 : decode cX7_withReceivers 145 = .ok (.lload_n 3, 1) := by decide +kernel
theorem dX7_withReceivers_146 : decode cX7_withReceivers 146 = .ok (.lreturn, 1) := by decide +kernel
theorem dX7_withMessages_0 : decode cX7_withMessages 0 = .ok (.lload_n 1, 1) := by decide +kernel
theorem dX7_withMessages_1 : decode cX7_withMessages 1 = .ok (.lstore_n 3, 1) := by decide +kernel
theorem dX7_withMessages_2 : decode cX7_withMessages 2 = .ok (.iconst 0, 1) := by decide +kernel
theorem dX7_withMessages_3 : decode cX7_withMessages 3 = .ok (.istore 5, 2) := by decide +kernel
theorem dX7_withMessages_5 : decode cX7_withMessages 5 = .ok (.iload 5, 2) := by decide +kernel
theorem dX7_withMessages_7 : decode cX7_withMessages 7 = .ok (.aload_n 0, 1) := by decide +kernel
theorem dX7_withMessages_8 : decode cX7_withMessages 8 = .ok (.getfield 10, 3) := by decide +kernel
theorem dX7_withMessages_11 : decode cX7_withMessages 11 = .ok (.getfield 123, 3) := by decide +kernel
theorem dX7_withMessages_14 : decode cX7_withMessages 14 = .ok (.getfield 127, 3) := by decide +kernel
theorem dX7_withMessages_17 : decode cX7_withMessages 17 = .ok (.if_icmp .ge 55, 3) := by decide +kernel
theorem dX7_withMessages_20 : decode cX7_withMessages 20 = .ok (.iconst 0, 1) := by decide +kernel
theorem dX7_withMessages_21 : decode cX7_withMessages 21 = .ok (.istore 6, 2) := by decide +kernel
theorem dX7_withMessages_23 : decode cX7_withMessages 23 = .ok (.iload 6, 2) := by decide +kernel
theorem dX7_withMessages_25 : decode cX7_withMessages 25 = .ok (.iconst 5, 1) := by decide +kernel
theorem dX7_withMessages_26 : decode cX7_withMessages 26 = .ok (.if_icmp .ge 40, 3) := by decide +kernel
theorem dX7_withMessages_29 : decode cX7_withMessages 29 = .ok (.lload_n 3, 1) := by decide +kernel
theorem dX7_withMessages_30 : decode cX7_withMessages 30 = .ok (.aload_n 0, 1) := by decide +kernel
theorem dX7_withMessages_31 : decode cX7_withMessages 31 = .ok (.getfield 10, 3) := by decide +kernel
theorem dX7_withMessages_34 : decode cX7_withMessages 34 = .ok (.getfield 123, 3) := by decide +kernel
theorem dX7_withMessages_37 : decode cX7_withMessages 37 = .ok (.getfield 219, 3) := by decide +kernel
theorem dX7_withMessages_40 : decode cX7_withMessages 40 = .ok (.iload 5, 2) := by decide +kernel
theorem dX7_withMessages_42 : decode cX7_withMessages 42 = .ok (.aaload, 1) := by decide +kernel
theorem dX7_withMessages_43 : decode cX7_withMessages 43 = .ok (.iload 6, 2) := by decide +kernel
theorem dX7_withMessages_45 : decode cX7_withMessages 45 = .ok (.aload_n 0, 1) := by decide +kernel
theorem dX7_withMessages_46 : decode cX7_withMessages 46 = .ok (.getfield 10, 3) := by decide +kernel
theorem dX7_withMessages_49 : decode cX7_withMessages 49 = .ok (.getfield 188, 3) := by decide +kernel
theorem dX7_withMessages_52 : decode cX7_withMessages 52 = .ok (.invokevirtual 223, 3) := by decide +kernel
theorem dX7_withMessages_55 : decode cX7_withMessages 55 = .ok (.i2l, 1) := by decide +kernel
theorem dX7_withMessages_56 : decode cX7_withMessages 56 = .ok (.invokestatic 268, 3) := by decide +kernel
theorem dX7_withMessages_59 : decode cX7_withMessages 59 = .ok (.lstore_n 3, 1) := by decide +kernel
theorem dX7_withMessages_60 : decode cX7_withMessages 60 = .ok (.iinc 6 1, 3) := by decide +kernel
theorem dX7_withMessages_63 : decode cX7_withMessages 63 = .ok (.goto (-40), 3) := by decide +kernel
theorem dX7_withMessages_66 : decode cX7_withMessages 66 = .ok (.iinc 5 1, 3) := by decide +kernel
theorem dX7_withMessages_69 : decode cX7_withMessages 69 = .ok (.goto (-64), 3) := by decide +kernel
theorem dX7_withMessages_72 : decode cX7_withMessages 72 = .ok (.lload_n 3, 1) := by decide +kernel
theorem dX7_withMessages_73 : decode cX7_withMessages 73 = .ok (.lreturn, 1) := by decide +kernel
theorem dX7_withText_0 : decode cX7_withText 0 = .ok (.lload_n 1, 1) := by decide +kernel
theorem dX7_withText_1 : decode cX7_withText 1 = .ok (.aload_n 0, 1) := by decide +kernel
theorem dX7_withText_2 : decode cX7_withText 2 = .ok (.getfield 23, 3) := by decide +kernel
theorem dX7_withText_5 : decode cX7_withText 5 = .ok (.getfield 161, 3) := by decide +kernel
theorem dX7_withText_8 : decode cX7_withText 8 = .ok (.i2l, 1) := by decide +kernel
theorem dX7_withText_9 : decode cX7_withText 9 = .ok (.invokestatic 268, 3) := by decide +kernel
theorem dX7_withText_12 : decode cX7_withText 12 = .ok (.lstore_n 3, 1) := by decide +kernel
theorem dX7_withText_13 : decode cX7_withText 13 = .ok (.iconst 0, 1) := by decide +kernel
theorem dX7_withText_14 : decode cX7_withText 14 = .ok (.istore 5, 2) := by decide +kernel
theorem dX7_withText_16 : decode cX7_withText 16 = .ok (.iload 5, 2) := by decide +kernel
theorem dX7_withText_18 : decode cX7_withText 18 = .ok (.aload_n 0, 1) := by decide +kernel
theorem dX7_withText_19 : decode cX7_withText 19 = .ok (.getfield 23, 3) := by decide +kernel
theorem dX7_withText_22 : decode cX7_withText 22 = .ok (.getfield 161, 3) := by decide +kernel
theorem dX7_withText_25 : decode cX7_withText 25 = .ok (.if_icmp .ge 25, 3) := by decide +kernel
theorem dX7_withText_28 : decode cX7_withText 28 = .ok (.lload_n 3, 1) := by decide +kernel
theorem dX7_withText_29 : decode cX7_withText 29 = .ok (.aload_n 0, 1) := by decide +kernel
theorem dX7_withText_30 : decode cX7_withText 30 = .ok (.getfield 23, 3) := by decide +kernel
theorem dX7_withText_33 : decode cX7_withText 33 = .ok (.getfield 166, 3) := by decide +kernel
theorem dX7_withText_36 : decode cX7_withText 36 = .ok (.iload 5, 2) := by decide +kernel
theorem dX7_withText_38 : decode cX7_withText 38 = .ok (.iaload, 1) := by decide +kernel
theorem dX7_withText_39 : decode cX7_withText 39 = .ok (.i2l, 1) := by decide +kernel
theorem dX7_withText_40 : decode cX7_withText 40 = .ok (.invokestatic 268, 3) := by decide +kernel
theorem dX7_withText_43 : decode cX7_withText 43 = .ok (.lstore_n 3, 1) := by decide +kernel
theorem dX7_withText_44 : decode cX7_withText 44 = .ok (.iinc 5 1, 3) := by decide +kernel
theorem dX7_withText_47 : decode cX7_withText 47 = .ok (.goto (-31), 3) := by decide +kernel
theorem dX7_withText_50 : decode cX7_withText 50 = .ok (.lload_n 3, 1) := by decide +kernel
theorem dX7_withText_51 : decode cX7_withText 51 = .ok (.lreturn, 1) := by decide +kernel
theorem dX7_mixed_0 : decode cX7_mixed 0 = .ok (.ldc2_w 312, 3) := by decide +kernel
theorem dX7_mixed_3 : decode cX7_mixed 3 = .ok (.lload_n 0, 1) := by decide +kernel
theorem dX7_mixed_4 : decode cX7_mixed 4 = .ok (.lmul, 1) := by decide +kernel
theorem dX7_mixed_5 : decode cX7_mixed 5 = .ok (.lload_n 2, 1) := by decide +kernel
theorem dX7_mixed_6 : decode cX7_mixed 6 = .ok (.ladd, 1) := by decide +kernel
theorem dX7_mixed_7 : decode cX7_mixed 7 = .ok (.lreturn, 1) := by decide +kernel
theorem dX7_bitsOf_0 : decode cX7_bitsOf 0 = .ok (.dload_n 0, 1) := by decide +kernel
theorem dX7_bitsOf_1 : decode cX7_bitsOf 1 = .ok (.dconst 0, 1) := by decide +kernel
theorem dX7_bitsOf_2 : decode cX7_bitsOf 2 = .ok (.dcmp .l, 1) := by decide +kernel
theorem dX7_bitsOf_3 : decode cX7_bitsOf 3 = .ok (.ifCond .gt 5, 3) := by decide +kernel
theorem dX7_bitsOf_6 : decode cX7_bitsOf 6 = .ok (.lconst 0, 1) := by decide +kernel
theorem dX7_bitsOf_7 : decode cX7_bitsOf 7 = .ok (.lreturn, 1) := by decide +kernel
theorem dX7_bitsOf_8 : decode cX7_bitsOf 8 = .ok (.dload_n 0, 1) := by decide +kernel
theorem dX7_bitsOf_9 : decode cX7_bitsOf 9 = .ok (.dstore 4, 2) := by decide +kernel
theorem dX7_bitsOf_11 : decode cX7_bitsOf 11 = .ok (.iload_n 2, 1) := by decide +kernel
theorem dX7_bitsOf_12 : decode cX7_bitsOf 12 = .ok (.i2l, 1) := by decide +kernel
theorem dX7_bitsOf_13 : decode cX7_bitsOf 13 = .ok (.lstore 6, 2) := by decide +kernel
theorem dX7_bitsOf_15 : decode cX7_bitsOf 15 = .ok (.iconst 0, 1) := by decide +kernel
theorem dX7_bitsOf_16 : decode cX7_bitsOf 16 = .ok (.istore 8, 2) := by decide +kernel
theorem dX7_bitsOf_18 : decode cX7_bitsOf 18 = .ok (.iload 8, 2) := by decide +kernel
theorem dX7_bitsOf_20 : decode cX7_bitsOf 20 = .ok (.bipush 63, 2) := by decide +kernel
theorem dX7_bitsOf_22 : decode cX7_bitsOf 22 = .ok (.if_icmp .ge 30, 3) := by decide +kernel
theorem dX7_bitsOf_25 : decode cX7_bitsOf 25 = .ok (.dload 4, 2) := by decide +kernel
theorem dX7_bitsOf_27 : decode cX7_bitsOf 27 = .ok (.dconst 1, 1) := by decide +kernel
theorem dX7_bitsOf_28 : decode cX7_bitsOf 28 = .ok (.dcmp .g, 1) := by decide +kernel
theorem dX7_bitsOf_29 : decode cX7_bitsOf 29 = .ok (.ifCond .ge 23, 3) := by decide +kernel
theorem dX7_bitsOf_32 : decode cX7_bitsOf 32 = .ok (.dload 4, 2) := by decide +kernel
theorem dX7_bitsOf_34 : decode cX7_bitsOf 34 = .ok (.ldc2_w 314, 3) := by decide +kernel
theorem dX7_bitsOf_37 : decode cX7_bitsOf 37 = .ok (.dmul, 1) := by decide +kernel
theorem dX7_bitsOf_38 : decode cX7_bitsOf 38 = .ok (.dstore 4, 2) := by decide +kernel
theorem dX7_bitsOf_40 : decode cX7_bitsOf 40 = .ok (.lload 6, 2) := by decide +kernel
theorem dX7_bitsOf_42 : decode cX7_bitsOf 42 = .ok (.lconst 1, 1) := by decide +kernel
theorem dX7_bitsOf_43 : decode cX7_bitsOf 43 = .ok (.lsub, 1) := by decide +kernel
theorem dX7_bitsOf_44 : decode cX7_bitsOf 44 = .ok (.lstore 6, 2) := by decide +kernel
theorem dX7_bitsOf_46 : decode cX7_bitsOf 46 = .ok (.iinc 8 1, 3) := by decide +kernel
theorem dX7_bitsOf_49 : decode cX7_bitsOf 49 = .ok (.goto (-31), 3) := by decide +kernel
theorem dX7_bitsOf_52 : decode cX7_bitsOf 52 = .ok (.iconst 0, 1) := by decide +kernel
theorem dX7_bitsOf_53 : decode cX7_bitsOf 53 = .ok (.istore 8, 2) := by decide +kernel
theorem dX7_bitsOf_55 : decode cX7_bitsOf 55 = .ok (.iload 8, 2) := by decide +kernel
theorem dX7_bitsOf_57 : decode cX7_bitsOf 57 = .ok (.bipush 63, 2) := by decide +kernel
theorem dX7_bitsOf_59 : decode cX7_bitsOf 59 = .ok (.if_icmp .ge 32, 3) := by decide +kernel
theorem dX7_bitsOf_62 : decode cX7_bitsOf 62 = .ok (.dload 4, 2) := by decide +kernel
theorem dX7_bitsOf_64 : decode cX7_bitsOf 64 = .ok (.ldc2_w 314, 3) := by decide +kernel
theorem dX7_bitsOf_67 : decode cX7_bitsOf 67 = .ok (.dcmp .l, 1) := by decide +kernel
theorem dX7_bitsOf_68 : decode cX7_bitsOf 68 = .ok (.ifCond .lt 23, 3) := by decide +kernel
theorem dX7_bitsOf_71 : decode cX7_bitsOf 71 = .ok (.dload 4, 2) := by decide +kernel
theorem dX7_bitsOf_73 : decode cX7_bitsOf 73 = .ok (.ldc2_w 314, 3) := by decide +kernel
theorem dX7_bitsOf_76 : decode cX7_bitsOf 76 = .ok (.ddiv, 1) := by decide +kernel
theorem dX7_bitsOf_77 : decode cX7_bitsOf 77 = .ok (.dstore 4, 2) := by decide +kernel
theorem dX7_bitsOf_79 : decode cX7_bitsOf 79 = .ok (.lload 6, 2) := by decide +kernel
theorem dX7_bitsOf_81 : decode cX7_bitsOf 81 = .ok (.lconst 1, 1) := by decide +kernel
theorem dX7_bitsOf_82 : decode cX7_bitsOf 82 = .ok (.ladd, 1) := by decide +kernel
theorem dX7_bitsOf_83 : decode cX7_bitsOf 83 = .ok (.lstore 6, 2) := by decide +kernel
theorem dX7_bitsOf_85 : decode cX7_bitsOf 85 = .ok (.iinc 8 1, 3) := by decide +kernel
theorem dX7_bitsOf_88 : decode cX7_bitsOf 88 = .ok (.goto (-33), 3) := by decide +kernel
theorem dX7_bitsOf_91 : decode cX7_bitsOf 91 = .ok (.lload 6, 2) := by decide +kernel
theorem dX7_bitsOf_93 : decode cX7_bitsOf 93 = .ok (.iload_n 3, 1) := by decide +kernel
theorem dX7_bitsOf_94 : decode cX7_bitsOf 94 = .ok (.lshl, 1) := by decide +kernel
theorem dX7_bitsOf_95 : decode cX7_bitsOf 95 = .ok (.dload 4, 2) := by decide +kernel
theorem dX7_bitsOf_97 : decode cX7_bitsOf 97 = .ok (.dconst 1, 1) := by decide +kernel
theorem dX7_bitsOf_98 : decode cX7_bitsOf 98 = .ok (.dsub, 1) := by decide +kernel
theorem dX7_bitsOf_99 : decode cX7_bitsOf 99 = .ok (.lconst 1, 1) := by decide +kernel
theorem dX7_bitsOf_100 : decode cX7_bitsOf 100 = .ok (.iload_n 3, 1) := by decide +kernel
theorem dX7_bitsOf_101 : decode cX7_bitsOf 101 = .ok (.lshl, 1) := by decide +kernel
theorem dX7_bitsOf_102 : decode cX7_bitsOf 102 = .ok (.l2d, 1) := by decide +kernel
theorem dX7_bitsOf_103 : decode cX7_bitsOf 103 = .ok (.dmul, 1) := by decide +kernel
theorem dX7_bitsOf_104 : decode cX7_bitsOf 104 = .ok (.d2l, 1) := by decide +kernel
theorem dX7_bitsOf_105 : decode cX7_bitsOf 105 = .ok (.ladd, 1) := by decide +kernel
theorem dX7_bitsOf_106 : decode cX7_bitsOf 106 = .ok (.lreturn, 1) := by decide +kernel
theorem dX7_isBelow_0 : decode cX7_isBelow 0 = .ok (.iload_n 0, 1) := by decide +kernel
theorem dX7_isBelow_1 : decode cX7_isBelow 1 = .ok (.ifCond .lt 12, 3) := by decide +kernel
theorem dX7_isBelow_4 : decode cX7_isBelow 4 = .ok (.iload_n 0, 1) := by decide +kernel
theorem dX7_isBelow_5 : decode cX7_isBelow 5 = .ok (.iload_n 1, 1) := by decide +kernel
theorem dX7_isBelow_6 : decode cX7_isBelow 6 = .ok (.if_icmp .ge 7, 3) := by decide +kernel
theorem dX7_isBelow_9 : decode cX7_isBelow 9 = .ok (.iconst 1, 1) := by decide +kernel
theorem dX7_isBelow_10 : decode cX7_isBelow 10 = .ok (.goto 4, 3) := by decide +kernel
theorem dX7_isBelow_13 : decode cX7_isBelow 13 = .ok (.iconst 0, 1) := by decide +kernel
theorem dX7_isBelow_14 : decode cX7_isBelow 14 = .ok (.ireturn, 1) := by decide +kernel
theorem dX7_isTicks_0 : decode cX7_isTicks 0 = .ok (.iload_n 0, 1) := by decide +kernel
theorem dX7_isTicks_1 : decode cX7_isTicks 1 = .ok (.iconst 1, 1) := by decide +kernel
theorem dX7_isTicks_2 : decode cX7_isTicks 2 = .ok (.if_icmp .lt 13, 3) := by decide +kernel
theorem dX7_isTicks_5 : decode cX7_isTicks 5 = .ok (.iload_n 0, 1) := by decide +kernel
theorem dX7_isTicks_6 : decode cX7_isTicks 6 = .ok (.bipush 99, 2) := by decide +kernel
theorem dX7_isTicks_8 : decode cX7_isTicks 8 = .ok (.if_icmp .gt 7, 3) := by decide +kernel
theorem dX7_isTicks_11 : decode cX7_isTicks 11 = .ok (.iconst 1, 1) := by decide +kernel
theorem dX7_isTicks_12 : decode cX7_isTicks 12 = .ok (.goto 4, 3) := by decide +kernel
theorem dX7_isTicks_15 : decode cX7_isTicks 15 = .ok (.iconst 0, 1) := by decide +kernel
theorem dX7_isTicks_16 : decode cX7_isTicks 16 = .ok (.ireturn, 1) := by decide +kernel
theorem dX7_isSettingValue_0 : decode cX7_isSettingValue 0 = .ok (.iload_n 0, 1) := by decide +kernel
theorem dX7_isSettingValue_1 : decode cX7_isSettingValue 1 = .ok (.bipush 7, 2) := by decide +kernel
theorem dX7_isSettingValue_3 : decode cX7_isSettingValue 3 = .ok (.invokestatic 63, 3) := by decide +kernel
theorem dX7_isSettingValue_6 : decode cX7_isSettingValue 6 = .ok (.ifCond .eq 21, 3) := by decide +kernel
theorem dX7_isSettingValue_9 : decode cX7_isSettingValue 9 = .ok (.iload_n 1, 1) := by decide +kernel
theorem dX7_isSettingValue_10 : decode cX7_isSettingValue 10 = .ok (.getstatic 316, 3) := by decide +kernel
theorem dX7_isSettingValue_13 : decode cX7_isSettingValue 13 = .ok (.iload_n 0, 1) := by decide +kernel
theorem dX7_isSettingValue_14 : decode cX7_isSettingValue 14 = .ok (.iaload, 1) := by decide +kernel
theorem dX7_isSettingValue_15 : decode cX7_isSettingValue 15 = .ok (.if_icmp .lt 12, 3) := by decide +kernel
theorem dX7_isSettingValue_18 : decode cX7_isSettingValue 18 = .ok (.iload_n 1, 1) := by decide +kernel
theorem dX7_isSettingValue_19 : decode cX7_isSettingValue 19 = .ok (.getstatic 319, 3) := by decide +kernel
theorem dX7_isSettingValue_22 : decode cX7_isSettingValue 22 = .ok (.iload_n 0, 1) := by decide +kernel
theorem dX7_isSettingValue_23 : decode cX7_isSettingValue 23 = .ok (.iaload, 1) := by decide +kernel
theorem dX7_isSettingValue_24 : decode cX7_isSettingValue 24 = .ok (.if_icmp .le 5, 3) := by decide +kernel
theorem dX7_isSettingValue_27 : decode cX7_isSettingValue 27 = .ok (.iconst 0, 1) := by decide +kernel
theorem dX7_isSettingValue_28 : decode cX7_isSettingValue 28 = .ok (.ireturn, 1) := by decide +kernel
theorem dX7_isSettingValue_29 : decode cX7_isSettingValue 29 = .ok (.iload_n 0, 1) := by decide +kernel
theorem dX7_isSettingValue_30 : decode cX7_isSettingValue 30 = .ok (.iconst 4, 1) := by decide +kernel
theorem dX7_isSettingValue_31 : decode cX7_isSettingValue 31 = .ok (.if_icmp .ne 8, 3) := by decide +kernel
theorem dX7_isSettingValue_34 : decode cX7_isSettingValue 34 = .ok (.iload_n 1, 1) := by decide +kernel
theorem dX7_isSettingValue_35 : decode cX7_isSettingValue 35 = .ok (.iconst 1, 1) := by decide +kernel
theorem dX7_isSettingValue_36 : decode cX7_isSettingValue 36 = .ok (.if_icmp .eq 7, 3) := by decide +kernel
theorem dX7_isSettingValue_39 : decode cX7_isSettingValue 39 = .ok (.iconst 1, 1) := by decide +kernel
theorem dX7_isSettingValue_40 : decode cX7_isSettingValue 40 = .ok (.goto 4, 3) := by decide +kernel
theorem dX7_isSettingValue_43 : decode cX7_isSettingValue 43 = .ok (.iconst 0, 1) := by decide +kernel
theorem dX7_isSettingValue_44 : decode cX7_isSettingValue 44 = .ok (.ireturn, 1) := by decide +kernel
theorem dX7_save_0 : decode cX7_save 0 = .ok (.aload_n 0, 1) := by decide +kernel
theorem dX7_save_1 : decode cX7_save 1 = .ok (.getfield 27, 3) := by decide +kernel
theorem dX7_save_4 : decode cX7_save 4 = .ok (.bipush 6, 2) := by decide +kernel
theorem dX7_save_6 : decode cX7_save 6 = .ok (.if_icmp .lt 50, 3) := by decide +kernel
theorem dX7_save_9 : decode cX7_save 9 = .ok (.aload_n 0, 1) := by decide +kernel
theorem dX7_save_10 : decode cX7_save 10 = .ok (.getfield 16, 3) := by decide +kernel
theorem dX7_save_13 : decode cX7_save 13 = .ok (.iconst 0, 1) := by decide +kernel
theorem dX7_save_14 : decode cX7_save 14 = .ok (.aaload, 1) := by decide +kernel
theorem dX7_save_15 : decode cX7_save 15 = .ok (.astore_n 1, 1) := by decide +kernel
theorem dX7_save_16 : decode cX7_save 16 = .ok (.iconst 1, 1) := by decide +kernel
theorem dX7_save_17 : decode cX7_save 17 = .ok (.istore_n 2, 1) := by decide +kernel
theorem dX7_save_18 : decode cX7_save 18 = .ok (.iload_n 2, 1) := by decide +kernel
theorem dX7_save_19 : decode cX7_save 19 = .ok (.bipush 6, 2) := by decide +kernel
theorem dX7_save_21 : decode cX7_save 21 = .ok (.if_icmp .ge 23, 3) := by decide +kernel
theorem dX7_save_24 : decode cX7_save 24 = .ok (.aload_n 0, 1) := by decide +kernel
theorem dX7_save_25 : decode cX7_save 25 = .ok (.getfield 16, 3) := by decide +kernel
theorem dX7_save_28 : decode cX7_save 28 = .ok (.iload_n 2, 1) := by decide +kernel
theorem dX7_save_29 : decode cX7_save 29 = .ok (.iconst 1, 1) := by decide +kernel
theorem dX7_save_30 : decode cX7_save 30 = .ok (.isub, 1) := by decide +kernel
theorem dX7_save_31 : decode cX7_save 31 = .ok (.aload_n 0, 1) := by decide +kernel
theorem dX7_save_32 : decode cX7_save 32 = .ok (.getfield 16, 3) := by decide +kernel
theorem dX7_save_35 : decode cX7_save 35 = .ok (.iload_n 2, 1) := by decide +kernel
theorem dX7_save_36 : decode cX7_save 36 = .ok (.aaload, 1) := by decide +kernel
theorem dX7_save_37 : decode cX7_save 37 = .ok (.aastore, 1) := by decide +kernel
theorem dX7_save_38 : decode cX7_save 38 = .ok (.iinc 2 1, 3) := by decide +kernel
theorem dX7_save_41 : decode cX7_save 41 = .ok (.goto (-23), 3) := by decide +kernel
theorem dX7_save_44 : decode cX7_save 44 = .ok (.aload_n 0, 1) := by decide +kernel
theorem dX7_save_45 : decode cX7_save 45 = .ok (.getfield 16, 3) := by decide +kernel
theorem dX7_save_48 : decode cX7_save 48 = .ok (.iconst 5, 1) := by decide +kernel
theorem dX7_save_49 : decode cX7_save 49 = .ok (.aload_n 1, 1) := by decide +kernel
theorem dX7_save_50 : decode cX7_save 50 = .ok (.aastore, 1) := by decide +kernel
theorem dX7_save_51 : decode cX7_save 51 = .ok (.aload_n 0, 1) := by decide +kernel
theorem dX7_save_52 : decode cX7_save 52 = .ok (.iconst 5, 1) := by decide +kernel
theorem dX7_save_53 : decode cX7_save 53 = .ok (.putfield 27, 3) := by decide +kernel
theorem dX7_save_56 : decode cX7_save 56 = .ok (.aload_n 0, 1) := by decide +kernel
theorem dX7_save_57 : decode cX7_save 57 = .ok (.getfield 16, 3) := by decide +kernel
theorem dX7_save_60 : decode cX7_save 60 = .ok (.aload_n 0, 1) := by decide +kernel
theorem dX7_save_61 : decode cX7_save 61 = .ok (.getfield 27, 3) := by decide +kernel
theorem dX7_save_64 : decode cX7_save 64 = .ok (.aaload, 1) := by decide +kernel
theorem dX7_save_65 : decode cX7_save 65 = .ok (.ifnonnull 19, 3) := by decide +kernel
theorem dX7_save_68 : decode cX7_save 68 = .ok (.aload_n 0, 1) := by decide +kernel
theorem dX7_save_69 : decode cX7_save 69 = .ok (.getfield 16, 3) := by decide +kernel
theorem dX7_save_72 : decode cX7_save 72 = .ok (.aload_n 0, 1) := by decide +kernel
theorem dX7_save_73 : decode cX7_save 73 = .ok (.getfield 27, 3) := by decide +kernel
theorem dX7_save_76 : decode cX7_save 76 = .ok (.new 7, 3) := by decide +kernel
theorem dX7_save_79 : decode cX7_save 79 = .ok (.dup, 1) := by decide +kernel
theorem dX7_save_80 : decode cX7_save 80 = .ok (.invokespecial 9, 3) := by decide +kernel
theorem dX7_save_83 : decode cX7_save 83 = .ok (.aastore, 1) := by decide +kernel
theorem dX7_save_84 : decode cX7_save 84 = .ok (.aload_n 0, 1) := by decide +kernel
theorem dX7_save_85 : decode cX7_save 85 = .ok (.getfield 16, 3) := by decide +kernel
theorem dX7_save_88 : decode cX7_save 88 = .ok (.aload_n 0, 1) := by decide +kernel
theorem dX7_save_89 : decode cX7_save 89 = .ok (.getfield 27, 3) := by decide +kernel
theorem dX7_save_92 : decode cX7_save 92 = .ok (.aaload, 1) := by decide +kernel
theorem dX7_save_93 : decode cX7_save 93 = .ok (.aload_n 0, 1) := by decide +kernel
theorem dX7_save_94 : decode cX7_save 94 = .ok (.getfield 10, 3) := by decide +kernel
theorem dX7_save_97 : decode cX7_save 97 = .ok (.invokevirtual 184, 3) := by decide +kernel
theorem dX7_save_100 : decode cX7_save 100 = .ok (.aload_n 0, 1) := by decide +kernel
theorem dX7_save_101 : decode cX7_save 101 = .ok (.dup, 1) := by decide +kernel
theorem dX7_save_102 : decode cX7_save 102 = .ok (.getfield 27, 3) := by decide +kernel
theorem dX7_save_105 : decode cX7_save 105 = .ok (.iconst 1, 1) := by decide +kernel
theorem dX7_save_106 : decode cX7_save 106 = .ok (.iadd, 1) := by decide +kernel
theorem dX7_save_107 : decode cX7_save 107 = .ok (.putfield 27, 3) := by decide +kernel
theorem dX7_save_110 : decode cX7_save 110 = .ok (.return_, 1) := by decide +kernel
theorem dX7_freshTrial_0 : decode cX7_freshTrial 0 = .ok (.aload_n 0, 1) := by decide +kernel
theorem dX7_freshTrial_1 : decode cX7_freshTrial 1 = .ok (.getfield 34, 3) := by decide +kernel
theorem dX7_freshTrial_4 : decode cX7_freshTrial 4 = .ok (.ifnonnull 14, 3) := by decide +kernel
theorem dX7_freshTrial_7 : decode cX7_freshTrial 7 = .ok (.aload_n 0, 1) := by decide +kernel
theorem dX7_freshTrial_8 : decode cX7_freshTrial 8 = .ok (.new 7, 3) := by decide +kernel
theorem dX7_freshTrial_11 : decode cX7_freshTrial 11 = .ok (.dup, 1) := by decide +kernel
theorem dX7_freshTrial_12 : decode cX7_freshTrial 12 = .ok (.invokespecial 9, 3) := by decide +kernel
theorem dX7_freshTrial_15 : decode cX7_freshTrial 15 = .ok (.putfield 34, 3) := by decide +kernel
theorem dX7_freshTrial_18 : decode cX7_freshTrial 18 = .ok (.aload_n 0, 1) := by decide +kernel
theorem dX7_freshTrial_19 : decode cX7_freshTrial 19 = .ok (.getfield 34, 3) := by decide +kernel
theorem dX7_freshTrial_22 : decode cX7_freshTrial 22 = .ok (.aload_n 0, 1) := by decide +kernel
theorem dX7_freshTrial_23 : decode cX7_freshTrial 23 = .ok (.getfield 10, 3) := by decide +kernel
theorem dX7_freshTrial_26 : decode cX7_freshTrial 26 = .ok (.invokevirtual 184, 3) := by decide +kernel
theorem dX7_freshTrial_29 : decode cX7_freshTrial 29 = .ok (.aload_n 0, 1) := by decide +kernel
theorem dX7_freshTrial_30 : decode cX7_freshTrial 30 = .ok (.getfield 34, 3) := by decide +kernel
theorem dX7_freshTrial_33 : decode cX7_freshTrial 33 = .ok (.areturn, 1) := by decide +kernel
theorem dX7_doOrder_0 : decode cX7_doOrder 0 = .ok (.aload_n 0, 1) := by decide +kernel
theorem dX7_doOrder_1 : decode cX7_doOrder 1 = .ok (.getfield 23, 3) := by decide +kernel
theorem dX7_doOrder_4 : decode cX7_doOrder 4 = .ok (.iload_n 1, 1) := by decide +kernel
theorem dX7_doOrder_5 : decode cX7_doOrder 5 = .ok (.iconst 1, 1) := by decide +kernel
theorem dX7_doOrder_6 : decode cX7_doOrder 6 = .ok (.iadd, 1) := by decide +kernel
theorem dX7_doOrder_7 : decode cX7_doOrder 7 = .ok (.invokevirtual 322, 3) := by decide +kernel
theorem dX7_doOrder_10 : decode cX7_doOrder 10 = .ok (.istore_n 2, 1) := by decide +kernel
theorem dX7_doOrder_11 : decode cX7_doOrder 11 = .ok (.aload_n 0, 1) := by decide +kernel
theorem dX7_doOrder_12 : decode cX7_doOrder 12 = .ok (.getfield 23, 3) := by decide +kernel
theorem dX7_doOrder_15 : decode cX7_doOrder 15 = .ok (.iload_n 1, 1) := by decide +kernel
theorem dX7_doOrder_16 : decode cX7_doOrder 16 = .ok (.invokevirtual 325, 3) := by decide +kernel
theorem dX7_doOrder_19 : decode cX7_doOrder 19 = .ok (.lookupswitch 169 #[(98, 49), (99, 108), (100, 131), (116, 149), (119, 64)], 49) := by decide +kernel
theorem dX7_doOrder_68 : decode cX7_doOrder 68 = .ok (.aload_n 0, 1) := by decide +kernel
theorem dX7_doOrder_69 : decode cX7_doOrder 69 = .ok (.getfield 10, 3) := by decide +kernel
theorem dX7_doOrder_72 : decode cX7_doOrder 72 = .ok (.aload_n 0, 1) := by decide +kernel
theorem dX7_doOrder_73 : decode cX7_doOrder 73 = .ok (.getfield 10, 3) := by decide +kernel
theorem dX7_doOrder_76 : decode cX7_doOrder 76 = .ok (.invokevirtual 37, 3) := by decide +kernel
theorem dX7_doOrder_79 : decode cX7_doOrder 79 = .ok (.invokevirtual 51, 3) := by decide +kernel
theorem dX7_doOrder_82 : decode cX7_doOrder 82 = .ok (.ireturn, 1) := by decide +kernel
theorem dX7_doOrder_83 : decode cX7_doOrder 83 = .ok (.aload_n 0, 1) := by decide +kernel
theorem dX7_doOrder_84 : decode cX7_doOrder 84 = .ok (.getfield 10, 3) := by decide +kernel
theorem dX7_doOrder_87 : decode cX7_doOrder 87 = .ok (.iload_n 2, 1) := by decide +kernel
theorem dX7_doOrder_88 : decode cX7_doOrder 88 = .ok (.invokevirtual 72, 3) := by decide +kernel
theorem dX7_doOrder_91 : decode cX7_doOrder 91 = .ok (.ifCond .ne 5, 3) := by decide +kernel
theorem dX7_doOrder_94 : decode cX7_doOrder 94 = .ok (.iconst 0, 1) := by decide +kernel
theorem dX7_doOrder_95 : decode cX7_doOrder 95 = .ok (.ireturn, 1) := by decide +kernel
theorem dX7_doOrder_96 : decode cX7_doOrder 96 = .ok (.aload_n 0, 1) := by decide +kernel
theorem dX7_doOrder_97 : decode cX7_doOrder 97 = .ok (.getfield 10, 3) := by decide +kernel
theorem dX7_doOrder_100 : decode cX7_doOrder 100 = .ok (.iload_n 2, 1) := by decide +kernel
theorem dX7_doOrder_101 : decode cX7_doOrder 101 = .ok (.aload_n 0, 1) := by decide +kernel
theorem dX7_doOrder_102 : decode cX7_doOrder 102 = .ok (.getfield 23, 3) := by decide +kernel
theorem dX7_doOrder_105 : decode cX7_doOrder 105 = .ok (.iload_n 1, 1) := by decide +kernel
theorem dX7_doOrder_106 : decode cX7_doOrder 106 = .ok (.iconst 2, 1) := by decide +kernel
theorem dX7_doOrder_107 : decode cX7_doOrder 107 = .ok (.iadd, 1) := by decide +kernel
theorem dX7_doOrder_108 : decode cX7_doOrder 108 = .ok (.invokevirtual 322, 3) := by decide +kernel
theorem dX7_doOrder_111 : decode cX7_doOrder 111 = .ok (.aload_n 0, 1) := by decide +kernel
theorem dX7_doOrder_112 : decode cX7_doOrder 112 = .ok (.getfield 23, 3) := by decide +kernel
theorem dX7_doOrder_115 : decode cX7_doOrder 115 = .ok (.iload_n 1, 1) := by decide +kernel
theorem dX7_doOrder_116 : decode cX7_doOrder 116 = .ok (.iconst 4, 1) := by decide +kernel
theorem dX7_doOrder_117 : decode cX7_doOrder 117 = .ok (.iadd, 1) := by decide +kernel
theorem dX7_doOrder_118 : decode cX7_doOrder 118 = .ok (.invokevirtual 328, 3) := by decide +kernel
theorem dX7_doOrder_121 : decode cX7_doOrder 121 = .ok (.invokevirtual 77, 3) := by decide +kernel
theorem dX7_doOrder_124 : decode cX7_doOrder 124 = .ok (.pop, 1) := by decide +kernel
theorem dX7_doOrder_125 : decode cX7_doOrder 125 = .ok (.iconst 1, 1) := by decide +kernel
theorem dX7_doOrder_126 : decode cX7_doOrder 126 = .ok (.ireturn, 1) := by decide +kernel
theorem dX7_doOrder_127 : decode cX7_doOrder 127 = .ok (.aload_n 0, 1) := by decide +kernel
theorem dX7_doOrder_128 : decode cX7_doOrder 128 = .ok (.getfield 10, 3) := by decide +kernel
theorem dX7_doOrder_131 : decode cX7_doOrder 131 = .ok (.iload_n 2, 1) := by decide +kernel
theorem dX7_doOrder_132 : decode cX7_doOrder 132 = .ok (.invokevirtual 81, 3) := by decide +kernel
theorem dX7_doOrder_135 : decode cX7_doOrder 135 = .ok (.ifCond .ne 5, 3) := by decide +kernel
theorem dX7_doOrder_138 : decode cX7_doOrder 138 = .ok (.iconst 0, 1) := by decide +kernel
theorem dX7_doOrder_139 : decode cX7_doOrder 139 = .ok (.ireturn, 1) := by decide +kernel
theorem dX7_doOrder_140 : decode cX7_doOrder 140 = .ok (.aload_n 0, 1) := by decide +kernel
theorem dX7_doOrder_141 : decode cX7_doOrder 141 = .ok (.getfield 10, 3) := by decide +kernel
theorem dX7_doOrder_144 : decode cX7_doOrder 144 = .ok (.iload_n 2, 1) := by decide +kernel
theorem dX7_doOrder_145 : decode cX7_doOrder 145 = .ok (.invokevirtual 86, 3) := by decide +kernel
theorem dX7_doOrder_148 : decode cX7_doOrder 148 = .ok (.iconst 1, 1) := by decide +kernel
theorem dX7_doOrder_149 : decode cX7_doOrder 149 = .ok (.ireturn, 1) := by decide +kernel
theorem dX7_doOrder_150 : decode cX7_doOrder 150 = .ok (.aload_n 0, 1) := by decide +kernel
theorem dX7_doOrder_151 : decode cX7_doOrder 151 = .ok (.getfield 10, 3) := by decide +kernel
theorem dX7_doOrder_154 : decode cX7_doOrder 154 = .ok (.iload_n 2, 1) := by decide +kernel
theorem dX7_doOrder_155 : decode cX7_doOrder 155 = .ok (.invokevirtual 99, 3) := by decide +kernel
theorem dX7_doOrder_158 : decode cX7_doOrder 158 = .ok (.iconst (-1), 1) := by decide +kernel
theorem dX7_doOrder_159 : decode cX7_doOrder 159 = .ok (.if_icmp .eq 7, 3) := by decide +kernel
theorem dX7_doOrder_162 : decode cX7_doOrder 162 = .ok (.iconst 1, 1) := by decide +kernel
theorem dX7_doOrder_163 : decode cX7_doOrder 163 = .ok (.goto 4, 3) := by decide +kernel
theorem dX7_doOrder_166 : decode cX7_doOrder 166 = .ok (.iconst 0, 1) := by decide +kernel
theorem dX7_doOrder_167 : decode cX7_doOrder 167 = .ok (.ireturn, 1) := by decide +kernel
theorem dX7_doOrder_168 : decode cX7_doOrder 168 = .ok (.aload_n 0, 1) := by decide +kernel
theorem dX7_doOrder_169 : decode cX7_doOrder 169 = .ok (.getfield 10, 3) := by decide +kernel
theorem dX7_doOrder_172 : decode cX7_doOrder 172 = .ok (.aload_n 0, 1) := by decide +kernel
theorem dX7_doOrder_173 : decode cX7_doOrder 173 = .ok (.getfield 23, 3) := by decide +kernel
theorem dX7_doOrder_176 : decode cX7_doOrder 176 = .ok (.iload_n 1, 1) := by decide +kernel
theorem dX7_doOrder_177 : decode cX7_doOrder 177 = .ok (.iconst 1, 1) := by decide +kernel
theorem dX7_doOrder_178 : decode cX7_doOrder 178 = .ok (.iadd, 1) := by decide +kernel
theorem dX7_doOrder_179 : decode cX7_doOrder 179 = .ok (.invokevirtual 328, 3) := by decide +kernel
theorem dX7_doOrder_182 : decode cX7_doOrder 182 = .ok (.invokevirtual 120, 3) := by decide +kernel
theorem dX7_doOrder_185 : decode cX7_doOrder 185 = .ok (.pop, 1) := by decide +kernel
theorem dX7_doOrder_186 : decode cX7_doOrder 186 = .ok (.iconst 1, 1) := by decide +kernel
theorem dX7_doOrder_187 : decode cX7_doOrder 187 = .ok (.ireturn, 1) := by decide +kernel
theorem dX7_doOrder_188 : decode cX7_doOrder 188 = .ok (.aload_n 0, 1) := by decide +kernel
theorem dX7_doOrder_189 : decode cX7_doOrder 189 = .ok (.getfield 10, 3) := by decide +kernel
theorem dX7_doOrder_192 : decode cX7_doOrder 192 = .ok (.invokevirtual 140, 3) := by decide +kernel
theorem dX7_doOrder_195 : decode cX7_doOrder 195 = .ok (.pop, 1) := by decide +kernel
theorem dX7_doOrder_196 : decode cX7_doOrder 196 = .ok (.iconst 1, 1) := by decide +kernel
theorem dX7_doOrder_197 : decode cX7_doOrder 197 = .ok (.ireturn, 1) := by decide +kernel
