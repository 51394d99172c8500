theorem d_X_init_0 : decode b_X_init 0 = .ok (.aload_n 0, 1) := by decide +kernel
theorem d_X_init_1 : decode b_X_init 1 = .ok (.invokespecial 1, 3) := by decide +kernel
theorem d_X_init_4 : decode b_X_init 4 = .ok (.aload_n 0, 1) := by decide +kernel
theorem d_X_init_5 : decode b_X_init 5 = .ok (.bipush 60, 2) := by decide +kernel
theorem d_X_init_7 : decode b_X_init 7 = .ok (.anewarray 9, 3) := by decide +kernel
theorem d_X_init_10 : decode b_X_init 10 = .ok (.putfield 11, 3) := by decide +kernel
theorem d_X_init_13 : decode b_X_init 13 = .ok (.aload_n 0, 1) := by decide +kernel
theorem d_X_init_14 : decode b_X_init 14 = .ok (.iconst 0, 1) := by decide +kernel
theorem d_X_init_15 : decode b_X_init 15 = .ok (.putfield 15, 3) := by decide +kernel
theorem d_X_init_18 : decode b_X_init 18 = .ok (.aload_n 0, 1) := by decide +kernel
theorem d_X_init_19 : decode b_X_init 19 = .ok (.new 19, 3) := by decide +kernel
theorem d_X_init_22 : decode b_X_init 22 = .ok (.dup, 1) := by decide +kernel
theorem d_X_init_23 : decode b_X_init 23 = .ok (.invokespecial 21, 3) := by decide +kernel
theorem d_X_init_26 : decode b_X_init 26 = .ok (.putfield 22, 3) := by decide +kernel
theorem d_X_init_29 : decode b_X_init 29 = .ok (.aload_n 0, 1) := by decide +kernel
theorem d_X_init_30 : decode b_X_init 30 = .ok (.bipush 12, 2) := by decide +kernel
theorem d_X_init_32 : decode b_X_init 32 = .ok (.anewarray 26, 3) := by decide +kernel
theorem d_X_init_35 : decode b_X_init 35 = .ok (.putfield 28, 3) := by decide +kernel
theorem d_X_init_38 : decode b_X_init 38 = .ok (.aload_n 0, 1) := by decide +kernel
theorem d_X_init_39 : decode b_X_init 39 = .ok (.new 32, 3) := by decide +kernel
theorem d_X_init_42 : decode b_X_init 42 = .ok (.dup, 1) := by decide +kernel
theorem d_X_init_43 : decode b_X_init 43 = .ok (.invokespecial 34, 3) := by decide +kernel
theorem d_X_init_46 : decode b_X_init 46 = .ok (.putfield 35, 3) := by decide +kernel
theorem d_X_init_49 : decode b_X_init 49 = .ok (.return_, 1) := by decide +kernel
theorem d_X_make_0 : decode b_X_make 0 = .ok (.iload_n 1, 1) := by decide +kernel
theorem d_X_make_1 : decode b_X_make 1 = .ok (.invokestatic 39, 3) := by decide +kernel
theorem d_X_make_4 : decode b_X_make 4 = .ok (.ifCond .eq 12, 3) := by decide +kernel
theorem d_X_make_7 : decode b_X_make 7 = .ok (.aload_n 0, 1) := by decide +kernel
theorem d_X_make_8 : decode b_X_make 8 = .ok (.getfield 15, 3) := by decide +kernel
theorem d_X_make_11 : decode b_X_make 11 = .ok (.bipush 60, 2) := by decide +kernel
theorem d_X_make_13 : decode b_X_make 13 = .ok (.if_icmp .lt 5, 3) := by decide +kernel
theorem d_X_make_16 : decode b_X_make 16 = .ok (.iconst (-1), 1) := by decide +kernel
theorem d_X_make_17 : decode b_X_make 17 = .ok (.ireturn, 1) := by decide +kernel
theorem d_X_make_18 : decode b_X_make 18 = .ok (.iload_n 1, 1) := by decide +kernel
theorem d_X_make_19 : decode b_X_make 19 = .ok (.ifCond .ne 28, 3) := by decide +kernel
theorem d_X_make_22 : decode b_X_make 22 = .ok (.aload_n 0, 1) := by decide +kernel
theorem d_X_make_23 : decode b_X_make 23 = .ok (.new 9, 3) := by decide +kernel
theorem d_X_make_26 : decode b_X_make 26 = .ok (.dup, 1) := by decide +kernel
theorem d_X_make_27 : decode b_X_make 27 = .ok (.iconst 0, 1) := by decide +kernel
theorem d_X_make_28 : decode b_X_make 28 = .ok (.iconst (-1), 1) := by decide +kernel
theorem d_X_make_29 : decode b_X_make 29 = .ok (.aload_n 0, 1) := by decide +kernel
theorem d_X_make_30 : decode b_X_make 30 = .ok (.getfield 15, 3) := by decide +kernel
theorem d_X_make_33 : decode b_X_make 33 = .ok (.new 43, 3) := by decide +kernel
theorem d_X_make_36 : decode b_X_make 36 = .ok (.dup, 1) := by decide +kernel
theorem d_X_make_37 : decode b_X_make 37 = .ok (.invokespecial 45, 3) := by decide +kernel
theorem d_X_make_40 : decode b_X_make 40 = .ok (.invokespecial 46, 3) := by decide +kernel
theorem d_X_make_43 : decode b_X_make 43 = .ok (.invokevirtual 49, 3) := by decide +kernel
theorem d_X_make_46 : decode b_X_make 46 = .ok (.ireturn, 1) := by decide +kernel
theorem d_X_make_47 : decode b_X_make 47 = .ok (.aload_n 0, 1) := by decide +kernel
theorem d_X_make_48 : decode b_X_make 48 = .ok (.iload_n 2, 1) := by decide +kernel
theorem d_X_make_49 : decode b_X_make 49 = .ok (.invokevirtual 53, 3) := by decide +kernel
theorem d_X_make_52 : decode b_X_make 52 = .ok (.astore_n 3, 1) := by decide +kernel
theorem d_X_make_53 : decode b_X_make 53 = .ok (.aload_n 3, 1) := by decide +kernel
theorem d_X_make_54 : decode b_X_make 54 = .ok (.ifnull 25, 3) := by decide +kernel
theorem d_X_make_57 : decode b_X_make 57 = .ok (.aload_n 3, 1) := by decide +kernel
theorem d_X_make_58 : decode b_X_make 58 = .ok (.getfield 57, 3) := by decide +kernel
theorem d_X_make_61 : decode b_X_make 61 = .ok (.getstatic 60, 3) := by decide +kernel
theorem d_X_make_64 : decode b_X_make 64 = .ok (.iload_n 1, 1) := by decide +kernel
theorem d_X_make_65 : decode b_X_make 65 = .ok (.iaload, 1) := by decide +kernel
theorem d_X_make_66 : decode b_X_make 66 = .ok (.if_icmp .ne 13, 3) := by decide +kernel
theorem d_X_make_69 : decode b_X_make 69 = .ok (.aload_n 3, 1) := by decide +kernel
theorem d_X_make_70 : decode b_X_make 70 = .ok (.getfield 64, 3) := by decide +kernel
theorem d_X_make_73 : decode b_X_make 73 = .ok (.invokevirtual 68, 3) := by decide +kernel
theorem d_X_make_76 : decode b_X_make 76 = .ok (.ifCond .eq 5, 3) := by decide +kernel
theorem d_X_make_79 : decode b_X_make 79 = .ok (.iconst (-1), 1) := by decide +kernel
theorem d_X_make_80 : decode b_X_make 80 = .ok (.ireturn, 1) := by decide +kernel
theorem d_X_make_81 : decode b_X_make 81 = .ok (.aload_n 0, 1) := by decide +kernel
theorem d_X_make_82 : decode b_X_make 82 = .ok (.new 9, 3) := by decide +kernel
theorem d_X_make_85 : decode b_X_make 85 = .ok (.dup, 1) := by decide +kernel
theorem d_X_make_86 : decode b_X_make 86 = .ok (.iload_n 1, 1) := by decide +kernel
theorem d_X_make_87 : decode b_X_make 87 = .ok (.iload_n 2, 1) := by decide +kernel
theorem d_X_make_88 : decode b_X_make 88 = .ok (.aload_n 3, 1) := by decide +kernel
theorem d_X_make_89 : decode b_X_make 89 = .ok (.getfield 72, 3) := by decide +kernel
theorem d_X_make_92 : decode b_X_make 92 = .ok (.aload_n 3, 1) := by decide +kernel
theorem d_X_make_93 : decode b_X_make 93 = .ok (.getfield 64, 3) := by decide +kernel
theorem d_X_make_96 : decode b_X_make 96 = .ok (.invokespecial 46, 3) := by decide +kernel
theorem d_X_make_99 : decode b_X_make 99 = .ok (.invokevirtual 49, 3) := by decide +kernel
theorem d_X_make_102 : decode b_X_make 102 = .ok (.ireturn, 1) := by decide +kernel
theorem d_X_drop_0 : decode b_X_drop 0 = .ok (.aload_n 0, 1) := by decide +kernel
theorem d_X_drop_1 : decode b_X_drop 1 = .ok (.iload_n 1, 1) := by decide +kernel
theorem d_X_drop_2 : decode b_X_drop 2 = .ok (.invokevirtual 53, 3) := by decide +kernel
theorem d_X_drop_5 : decode b_X_drop 5 = .ok (.astore_n 2, 1) := by decide +kernel
theorem d_X_drop_6 : decode b_X_drop 6 = .ok (.aload_n 2, 1) := by decide +kernel
theorem d_X_drop_7 : decode b_X_drop 7 = .ok (.ifnull 13, 3) := by decide +kernel
theorem d_X_drop_10 : decode b_X_drop 10 = .ok (.aload_n 2, 1) := by decide +kernel
theorem d_X_drop_11 : decode b_X_drop 11 = .ok (.getfield 64, 3) := by decide +kernel
theorem d_X_drop_14 : decode b_X_drop 14 = .ok (.invokevirtual 68, 3) := by decide +kernel
theorem d_X_drop_17 : decode b_X_drop 17 = .ok (.ifCond .eq 5, 3) := by decide +kernel
theorem d_X_drop_20 : decode b_X_drop 20 = .ok (.iconst (-1), 1) := by decide +kernel
theorem d_X_drop_21 : decode b_X_drop 21 = .ok (.ireturn, 1) := by decide +kernel
theorem d_X_drop_22 : decode b_X_drop 22 = .ok (.aload_n 0, 1) := by decide +kernel
theorem d_X_drop_23 : decode b_X_drop 23 = .ok (.getfield 11, 3) := by decide +kernel
theorem d_X_drop_26 : decode b_X_drop 26 = .ok (.iload_n 1, 1) := by decide +kernel
theorem d_X_drop_27 : decode b_X_drop 27 = .ok (.aconst_null, 1) := by decide +kernel
theorem d_X_drop_28 : decode b_X_drop 28 = .ok (.aastore, 1) := by decide +kernel
theorem d_X_drop_29 : decode b_X_drop 29 = .ok (.iconst 1, 1) := by decide +kernel
theorem d_X_drop_30 : decode b_X_drop 30 = .ok (.istore_n 3, 1) := by decide +kernel
theorem d_X_drop_31 : decode b_X_drop 31 = .ok (.iload_n 1, 1) := by decide +kernel
theorem d_X_drop_32 : decode b_X_drop 32 = .ok (.iconst 1, 1) := by decide +kernel
theorem d_X_drop_33 : decode b_X_drop 33 = .ok (.iadd, 1) := by decide +kernel
theorem d_X_drop_34 : decode b_X_drop 34 = .ok (.istore 4, 2) := by decide +kernel
theorem d_X_drop_36 : decode b_X_drop 36 = .ok (.iload 4, 2) := by decide +kernel
theorem d_X_drop_38 : decode b_X_drop 38 = .ok (.aload_n 0, 1) := by decide +kernel
theorem d_X_drop_39 : decode b_X_drop 39 = .ok (.getfield 15, 3) := by decide +kernel
theorem d_X_drop_42 : decode b_X_drop 42 = .ok (.if_icmp .ge 34, 3) := by decide +kernel
theorem d_X_drop_45 : decode b_X_drop 45 = .ok (.aload_n 0, 1) := by decide +kernel
theorem d_X_drop_46 : decode b_X_drop 46 = .ok (.aload_n 0, 1) := by decide +kernel
theorem d_X_drop_47 : decode b_X_drop 47 = .ok (.getfield 11, 3) := by decide +kernel
theorem d_X_drop_50 : decode b_X_drop 50 = .ok (.iload 4, 2) := by decide +kernel
theorem d_X_drop_52 : decode b_X_drop 52 = .ok (.aaload, 1) := by decide +kernel
theorem d_X_drop_53 : decode b_X_drop 53 = .ok (.invokevirtual 75, 3) := by decide +kernel
theorem d_X_drop_56 : decode b_X_drop 56 = .ok (.ifCond .eq 14, 3) := by decide +kernel
theorem d_X_drop_59 : decode b_X_drop 59 = .ok (.aload_n 0, 1) := by decide +kernel
theorem d_X_drop_60 : decode b_X_drop 60 = .ok (.getfield 11, 3) := by decide +kernel
theorem d_X_drop_63 : decode b_X_drop 63 = .ok (.iload 4, 2) := by decide +kernel
theorem d_X_drop_65 : decode b_X_drop 65 = .ok (.aconst_null, 1) := by decide +kernel
theorem d_X_drop_66 : decode b_X_drop 66 = .ok (.aastore, 1) := by decide +kernel
theorem d_X_drop_67 : decode b_X_drop 67 = .ok (.iinc 3 1, 3) := by decide +kernel
theorem d_X_drop_70 : decode b_X_drop 70 = .ok (.iinc 4 1, 3) := by decide +kernel
theorem d_X_drop_73 : decode b_X_drop 73 = .ok (.goto (-37), 3) := by decide +kernel
theorem d_X_drop_76 : decode b_X_drop 76 = .ok (.iload_n 3, 1) := by decide +kernel
theorem d_X_drop_77 : decode b_X_drop 77 = .ok (.ireturn, 1) := by decide +kernel
theorem d_X_numbers_0 : decode b_X_numbers 0 = .ok (.iload_n 1, 1) := by decide +kernel
theorem d_X_numbers_1 : decode b_X_numbers 1 = .ok (.invokestatic 39, 3) := by decide +kernel
theorem d_X_numbers_4 : decode b_X_numbers 4 = .ok (.ifCond .ne 5, 3) := by decide +kernel
theorem d_X_numbers_7 : decode b_X_numbers 7 = .ok (.iconst (-1), 1) := by decide +kernel
theorem d_X_numbers_8 : decode b_X_numbers 8 = .ok (.ireturn, 1) := by decide +kernel
theorem d_X_numbers_9 : decode b_X_numbers 9 = .ok (.iconst 0, 1) := by decide +kernel
theorem d_X_numbers_10 : decode b_X_numbers 10 = .ok (.istore_n 2, 1) := by decide +kernel
theorem d_X_numbers_11 : decode b_X_numbers 11 = .ok (.iconst 0, 1) := by decide +kernel
theorem d_X_numbers_12 : decode b_X_numbers 12 = .ok (.istore_n 3, 1) := by decide +kernel
theorem d_X_numbers_13 : decode b_X_numbers 13 = .ok (.iload_n 3, 1) := by decide +kernel
theorem d_X_numbers_14 : decode b_X_numbers 14 = .ok (.aload_n 0, 1) := by decide +kernel
theorem d_X_numbers_15 : decode b_X_numbers 15 = .ok (.getfield 15, 3) := by decide +kernel
theorem d_X_numbers_18 : decode b_X_numbers 18 = .ok (.if_icmp .ge 34, 3) := by decide +kernel
theorem d_X_numbers_21 : decode b_X_numbers 21 = .ok (.aload_n 0, 1) := by decide +kernel
theorem d_X_numbers_22 : decode b_X_numbers 22 = .ok (.getfield 11, 3) := by decide +kernel
theorem d_X_numbers_25 : decode b_X_numbers 25 = .ok (.iload_n 3, 1) := by decide +kernel
theorem d_X_numbers_26 : decode b_X_numbers 26 = .ok (.aaload, 1) := by decide +kernel
theorem d_X_numbers_27 : decode b_X_numbers 27 = .ok (.ifnull 19, 3) := by decide +kernel
theorem d_X_numbers_30 : decode b_X_numbers 30 = .ok (.aload_n 0, 1) := by decide +kernel
theorem d_X_numbers_31 : decode b_X_numbers 31 = .ok (.getfield 11, 3) := by decide +kernel
theorem d_X_numbers_34 : decode b_X_numbers 34 = .ok (.iload_n 3, 1) := by decide +kernel
theorem d_X_numbers_35 : decode b_X_numbers 35 = .ok (.aaload, 1) := by decide +kernel
theorem d_X_numbers_36 : decode b_X_numbers 36 = .ok (.getfield 57, 3) := by decide +kernel
theorem d_X_numbers_39 : decode b_X_numbers 39 = .ok (.iload_n 1, 1) := by decide +kernel
theorem d_X_numbers_40 : decode b_X_numbers 40 = .ok (.if_icmp .ne 6, 3) := by decide +kernel
theorem d_X_numbers_43 : decode b_X_numbers 43 = .ok (.iinc 2 1, 3) := by decide +kernel
theorem d_X_numbers_46 : decode b_X_numbers 46 = .ok (.iinc 3 1, 3) := by decide +kernel
theorem d_X_numbers_49 : decode b_X_numbers 49 = .ok (.goto (-36), 3) := by decide +kernel
theorem d_X_numbers_52 : decode b_X_numbers 52 = .ok (.iload_n 2, 1) := by decide +kernel
theorem d_X_numbers_53 : decode b_X_numbers 53 = .ok (.ireturn, 1) := by decide +kernel
theorem d_X_about_0 : decode b_X_about 0 = .ok (.aload_n 0, 1) := by decide +kernel
theorem d_X_about_1 : decode b_X_about 1 = .ok (.iload_n 1, 1) := by decide +kernel
theorem d_X_about_2 : decode b_X_about 2 = .ok (.invokevirtual 53, 3) := by decide +kernel
theorem d_X_about_5 : decode b_X_about 5 = .ok (.astore_n 3, 1) := by decide +kernel
theorem d_X_about_6 : decode b_X_about 6 = .ok (.aload_n 3, 1) := by decide +kernel
theorem d_X_about_7 : decode b_X_about 7 = .ok (.ifnonnull 5, 3) := by decide +kernel
theorem d_X_about_10 : decode b_X_about 10 = .ok (.iconst (-1), 1) := by decide +kernel
theorem d_X_about_11 : decode b_X_about 11 = .ok (.ireturn, 1) := by decide +kernel
theorem d_X_about_12 : decode b_X_about 12 = .ok (.iload_n 2, 1) := by decide +kernel
theorem d_X_about_13 : decode b_X_about 13 = .ok (.tableswitch 52 0 3 #[31, 36, 41, 46], 31) := by decide +kernel
theorem d_X_about_44 : decode b_X_about 44 = .ok (.aload_n 3, 1) := by decide +kernel
theorem d_X_about_45 : decode b_X_about 45 = .ok (.getfield 57, 3) := by decide +kernel
theorem d_X_about_48 : decode b_X_about 48 = .ok (.ireturn, 1) := by decide +kernel
theorem d_X_about_49 : decode b_X_about 49 = .ok (.aload_n 3, 1) := by decide +kernel
theorem d_X_about_50 : decode b_X_about 50 = .ok (.getfield 79, 3) := by decide +kernel
theorem d_X_about_53 : decode b_X_about 53 = .ok (.ireturn, 1) := by decide +kernel
theorem d_X_about_54 : decode b_X_about 54 = .ok (.aload_n 3, 1) := by decide +kernel
theorem d_X_about_55 : decode b_X_about 55 = .ok (.getfield 72, 3) := by decide +kernel
theorem d_X_about_58 : decode b_X_about 58 = .ok (.ireturn, 1) := by decide +kernel
theorem d_X_about_59 : decode b_X_about 59 = .ok (.aload_n 0, 1) := by decide +kernel
theorem d_X_about_60 : decode b_X_about 60 = .ok (.iload_n 1, 1) := by decide +kernel
theorem d_X_about_61 : decode b_X_about 61 = .ok (.invokevirtual 82, 3) := by decide +kernel
theorem d_X_about_64 : decode b_X_about 64 = .ok (.ireturn, 1) := by decide +kernel
theorem d_X_about_65 : decode b_X_about 65 = .ok (.iconst (-1), 1) := by decide +kernel
theorem d_X_about_66 : decode b_X_about 66 = .ok (.ireturn, 1) := by decide +kernel
theorem d_X_collect_0 : decode b_X_collect 0 = .ok (.iload_n 1, 1) := by decide +kernel
theorem d_X_collect_1 : decode b_X_collect 1 = .ok (.invokestatic 86, 3) := by decide +kernel
theorem d_X_collect_4 : decode b_X_collect 4 = .ok (.ifCond .eq 22, 3) := by decide +kernel
theorem d_X_collect_7 : decode b_X_collect 7 = .ok (.iload_n 1, 1) := by decide +kernel
theorem d_X_collect_8 : decode b_X_collect 8 = .ok (.iload_n 2, 1) := by decide +kernel
theorem d_X_collect_9 : decode b_X_collect 9 = .ok (.invokestatic 89, 3) := by decide +kernel
theorem d_X_collect_12 : decode b_X_collect 12 = .ok (.ifCond .eq 14, 3) := by decide +kernel
theorem d_X_collect_15 : decode b_X_collect 15 = .ok (.aload_n 0, 1) := by decide +kernel
theorem d_X_collect_16 : decode b_X_collect 16 = .ok (.getfield 22, 3) := by decide +kernel
theorem d_X_collect_19 : decode b_X_collect 19 = .ok (.iload_n 1, 1) := by decide +kernel
theorem d_X_collect_20 : decode b_X_collect 20 = .ok (.invokevirtual 93, 3) := by decide +kernel
theorem d_X_collect_23 : decode b_X_collect 23 = .ok (.ifCond .eq 5, 3) := by decide +kernel
theorem d_X_collect_26 : decode b_X_collect 26 = .ok (.iconst (-1), 1) := by decide +kernel
theorem d_X_collect_27 : decode b_X_collect 27 = .ok (.ireturn, 1) := by decide +kernel
theorem d_X_collect_28 : decode b_X_collect 28 = .ok (.aload_n 0, 1) := by decide +kernel
theorem d_X_collect_29 : decode b_X_collect 29 = .ok (.getfield 22, 3) := by decide +kernel
theorem d_X_collect_32 : decode b_X_collect 32 = .ok (.iload_n 1, 1) := by decide +kernel
theorem d_X_collect_33 : decode b_X_collect 33 = .ok (.iload_n 2, 1) := by decide +kernel
theorem d_X_collect_34 : decode b_X_collect 34 = .ok (.invokevirtual 96, 3) := by decide +kernel
theorem d_X_collect_37 : decode b_X_collect 37 = .ok (.aload_n 0, 1) := by decide +kernel
theorem d_X_collect_38 : decode b_X_collect 38 = .ok (.getfield 22, 3) := by decide +kernel
theorem d_X_collect_41 : decode b_X_collect 41 = .ok (.iload_n 1, 1) := by decide +kernel
theorem d_X_collect_42 : decode b_X_collect 42 = .ok (.invokevirtual 100, 3) := by decide +kernel
theorem d_X_collect_45 : decode b_X_collect 45 = .ok (.ireturn, 1) := by decide +kernel
theorem d_X_collected_0 : decode b_X_collected 0 = .ok (.iload_n 1, 1) := by decide +kernel
theorem d_X_collected_1 : decode b_X_collected 1 = .ok (.invokestatic 86, 3) := by decide +kernel
theorem d_X_collected_4 : decode b_X_collected 4 = .ok (.ifCond .eq 14, 3) := by decide +kernel
theorem d_X_collected_7 : decode b_X_collected 7 = .ok (.aload_n 0, 1) := by decide +kernel
theorem d_X_collected_8 : decode b_X_collected 8 = .ok (.getfield 22, 3) := by decide +kernel
theorem d_X_collected_11 : decode b_X_collected 11 = .ok (.iload_n 1, 1) := by decide +kernel
theorem d_X_collected_12 : decode b_X_collected 12 = .ok (.invokevirtual 100, 3) := by decide +kernel
theorem d_X_collected_15 : decode b_X_collected 15 = .ok (.goto 4, 3) := by decide +kernel
theorem d_X_collected_18 : decode b_X_collected 18 = .ok (.iconst (-1), 1) := by decide +kernel
theorem d_X_collected_19 : decode b_X_collected 19 = .ok (.ireturn, 1) := by decide +kernel
theorem d_X_define_0 : decode b_X_define 0 = .ok (.iload_n 1, 1) := by decide +kernel
theorem d_X_define_1 : decode b_X_define 1 = .ok (.invokestatic 103, 3) := by decide +kernel
theorem d_X_define_4 : decode b_X_define 4 = .ok (.ifCond .eq 30, 3) := by decide +kernel
theorem d_X_define_7 : decode b_X_define 7 = .ok (.iload_n 2, 1) := by decide +kernel
theorem d_X_define_8 : decode b_X_define 8 = .ok (.invokestatic 39, 3) := by decide +kernel
theorem d_X_define_11 : decode b_X_define 11 = .ok (.ifCond .eq 23, 3) := by decide +kernel
theorem d_X_define_14 : decode b_X_define 14 = .ok (.iload_n 3, 1) := by decide +kernel
theorem d_X_define_15 : decode b_X_define 15 = .ok (.iconst (-1), 1) := by decide +kernel
theorem d_X_define_16 : decode b_X_define 16 = .ok (.if_icmp .eq 10, 3) := by decide +kernel
theorem d_X_define_19 : decode b_X_define 19 = .ok (.iload_n 3, 1) := by decide +kernel
theorem d_X_define_20 : decode b_X_define 20 = .ok (.invokestatic 86, 3) := by decide +kernel
theorem d_X_define_23 : decode b_X_define 23 = .ok (.ifCond .eq 11, 3) := by decide +kernel
theorem d_X_define_26 : decode b_X_define 26 = .ok (.lload 4, 2) := by decide +kernel
theorem d_X_define_28 : decode b_X_define 28 = .ok (.lload 6, 2) := by decide +kernel
theorem d_X_define_30 : decode b_X_define 30 = .ok (.lcmp, 1) := by decide +kernel
theorem d_X_define_31 : decode b_X_define 31 = .ok (.ifCond .le 5, 3) := by decide +kernel
theorem d_X_define_34 : decode b_X_define 34 = .ok (.iconst 0, 1) := by decide +kernel
theorem d_X_define_35 : decode b_X_define 35 = .ok (.ireturn, 1) := by decide +kernel
theorem d_X_define_36 : decode b_X_define 36 = .ok (.aload_n 0, 1) := by decide +kernel
theorem d_X_define_37 : decode b_X_define 37 = .ok (.getfield 28, 3) := by decide +kernel
theorem d_X_define_40 : decode b_X_define 40 = .ok (.iload_n 1, 1) := by decide +kernel
theorem d_X_define_41 : decode b_X_define 41 = .ok (.aaload, 1) := by decide +kernel
theorem d_X_define_42 : decode b_X_define 42 = .ok (.ifnonnull 16, 3) := by decide +kernel
theorem d_X_define_45 : decode b_X_define 45 = .ok (.aload_n 0, 1) := by decide +kernel
theorem d_X_define_46 : decode b_X_define 46 = .ok (.getfield 28, 3) := by decide +kernel
theorem d_X_define_49 : decode b_X_define 49 = .ok (.iload_n 1, 1) := by decide +kernel
theorem d_X_define_50 : decode b_X_define 50 = .ok (.new 26, 3) := by decide +kernel
theorem d_X_define_53 : decode b_X_define 53 = .ok (.dup, 1) := by decide +kernel
theorem d_X_define_54 : decode b_X_define 54 = .ok (.invokespecial 106, 3) := by decide +kernel
theorem d_X_define_57 : decode b_X_define 57 = .ok (.aastore, 1) := by decide +kernel
theorem d_X_define_58 : decode b_X_define 58 = .ok (.aload_n 0, 1) := by decide +kernel
theorem d_X_define_59 : decode b_X_define 59 = .ok (.getfield 28, 3) := by decide +kernel
theorem d_X_define_62 : decode b_X_define 62 = .ok (.iload_n 1, 1) := by decide +kernel
theorem d_X_define_63 : decode b_X_define 63 = .ok (.aaload, 1) := by decide +kernel
theorem d_X_define_64 : decode b_X_define 64 = .ok (.iload_n 2, 1) := by decide +kernel
theorem d_X_define_65 : decode b_X_define 65 = .ok (.iload_n 3, 1) := by decide +kernel
theorem d_X_define_66 : decode b_X_define 66 = .ok (.lload 4, 2) := by decide +kernel
theorem d_X_define_68 : decode b_X_define 68 = .ok (.lload 6, 2) := by decide +kernel
theorem d_X_define_70 : decode b_X_define 70 = .ok (.invokevirtual 107, 3) := by decide +kernel
theorem d_X_define_73 : decode b_X_define 73 = .ok (.iconst 1, 1) := by decide +kernel
theorem d_X_define_74 : decode b_X_define 74 = .ok (.ireturn, 1) := by decide +kernel
theorem d_X_answer_0 : decode b_X_answer 0 = .ok (.aload_n 0, 1) := by decide +kernel
theorem d_X_answer_1 : decode b_X_answer 1 = .ok (.iload_n 1, 1) := by decide +kernel
theorem d_X_answer_2 : decode b_X_answer 2 = .ok (.invokevirtual 111, 3) := by decide +kernel
theorem d_X_answer_5 : decode b_X_answer 5 = .ok (.astore 4, 2) := by decide +kernel
theorem d_X_answer_7 : decode b_X_answer 7 = .ok (.aload 4, 2) := by decide +kernel
theorem d_X_answer_9 : decode b_X_answer 9 = .ok (.ifnull 12, 3) := by decide +kernel
theorem d_X_answer_12 : decode b_X_answer 12 = .ok (.aload 4, 2) := by decide +kernel
theorem d_X_answer_14 : decode b_X_answer 14 = .ok (.getfield 115, 3) := by decide +kernel
theorem d_X_answer_17 : decode b_X_answer 17 = .ok (.iconst 5, 1) := by decide +kernel
theorem d_X_answer_18 : decode b_X_answer 18 = .ok (.if_icmp .lt 5, 3) := by decide +kernel
theorem d_X_answer_21 : decode b_X_answer 21 = .ok (.iconst (-1), 1) := by decide +kernel
theorem d_X_answer_22 : decode b_X_answer 22 = .ok (.ireturn, 1) := by decide +kernel
theorem d_X_answer_23 : decode b_X_answer 23 = .ok (.aload 4, 2) := by decide +kernel
theorem d_X_answer_25 : decode b_X_answer 25 = .ok (.lload_n 2, 1) := by decide +kernel
theorem d_X_answer_26 : decode b_X_answer 26 = .ok (.invokevirtual 118, 3) := by decide +kernel
theorem d_X_answer_29 : decode b_X_answer 29 = .ok (.aload 4, 2) := by decide +kernel
theorem d_X_answer_31 : decode b_X_answer 31 = .ok (.getfield 115, 3) := by decide +kernel
theorem d_X_answer_34 : decode b_X_answer 34 = .ok (.ireturn, 1) := by decide +kernel
theorem d_X_fails_0 : decode b_X_fails 0 = .ok (.aload_n 0, 1) := by decide +kernel
theorem d_X_fails_1 : decode b_X_fails 1 = .ok (.iload_n 1, 1) := by decide +kernel
theorem d_X_fails_2 : decode b_X_fails 2 = .ok (.invokevirtual 111, 3) := by decide +kernel
theorem d_X_fails_5 : decode b_X_fails 5 = .ok (.astore 4, 2) := by decide +kernel
theorem d_X_fails_7 : decode b_X_fails 7 = .ok (.aload 4, 2) := by decide +kernel
theorem d_X_fails_9 : decode b_X_fails 9 = .ok (.ifnull 23, 3) := by decide +kernel
theorem d_X_fails_12 : decode b_X_fails 12 = .ok (.iload_n 2, 1) := by decide +kernel
theorem d_X_fails_13 : decode b_X_fails 13 = .ok (.iconst 1, 1) := by decide +kernel
theorem d_X_fails_14 : decode b_X_fails 14 = .ok (.if_icmp .lt 18, 3) := by decide +kernel
theorem d_X_fails_17 : decode b_X_fails 17 = .ok (.iload_n 2, 1) := by decide +kernel
theorem d_X_fails_18 : decode b_X_fails 18 = .ok (.iconst 3, 1) := by decide +kernel
theorem d_X_fails_19 : decode b_X_fails 19 = .ok (.if_icmp .gt 13, 3) := by decide +kernel
theorem d_X_fails_22 : decode b_X_fails 22 = .ok (.iload_n 3, 1) := by decide +kernel
theorem d_X_fails_23 : decode b_X_fails 23 = .ok (.ifCond .lt 9, 3) := by decide +kernel
theorem d_X_fails_26 : decode b_X_fails 26 = .ok (.iload_n 3, 1) := by decide +kernel
theorem d_X_fails_27 : decode b_X_fails 27 = .ok (.bipush 9, 2) := by decide +kernel
theorem d_X_fails_29 : decode b_X_fails 29 = .ok (.if_icmp .le 5, 3) := by decide +kernel
theorem d_X_fails_32 : decode b_X_fails 32 = .ok (.iconst 0, 1) := by decide +kernel
theorem d_X_fails_33 : decode b_X_fails 33 = .ok (.ireturn, 1) := by decide +kernel
theorem d_X_fails_34 : decode b_X_fails 34 = .ok (.aload 4, 2) := by decide +kernel
theorem d_X_fails_36 : decode b_X_fails 36 = .ok (.iload_n 2, 1) := by decide +kernel
theorem d_X_fails_37 : decode b_X_fails 37 = .ok (.putfield 122, 3) := by decide +kernel
theorem d_X_fails_40 : decode b_X_fails 40 = .ok (.aload 4, 2) := by decide +kernel
theorem d_X_fails_42 : decode b_X_fails 42 = .ok (.iload_n 3, 1) := by decide +kernel
theorem d_X_fails_43 : decode b_X_fails 43 = .ok (.putfield 125, 3) := by decide +kernel
theorem d_X_fails_46 : decode b_X_fails 46 = .ok (.iconst 1, 1) := by decide +kernel
theorem d_X_fails_47 : decode b_X_fails 47 = .ok (.ireturn, 1) := by decide +kernel
theorem d_X_call_0 : decode b_X_call 0 = .ok (.aload_n 0, 1) := by decide +kernel
theorem d_X_call_1 : decode b_X_call 1 = .ok (.iload_n 1, 1) := by decide +kernel
theorem d_X_call_2 : decode b_X_call 2 = .ok (.invokevirtual 111, 3) := by decide +kernel
theorem d_X_call_5 : decode b_X_call 5 = .ok (.astore 5, 2) := by decide +kernel
theorem d_X_call_7 : decode b_X_call 7 = .ok (.aload_n 0, 1) := by decide +kernel
theorem d_X_call_8 : decode b_X_call 8 = .ok (.iload_n 2, 1) := by decide +kernel
theorem d_X_call_9 : decode b_X_call 9 = .ok (.invokevirtual 53, 3) := by decide +kernel
theorem d_X_call_12 : decode b_X_call 12 = .ok (.astore 6, 2) := by decide +kernel
theorem d_X_call_14 : decode b_X_call 14 = .ok (.aload 5, 2) := by decide +kernel
theorem d_X_call_16 : decode b_X_call 16 = .ok (.ifnull 21, 3) := by decide +kernel
theorem d_X_call_19 : decode b_X_call 19 = .ok (.aload 6, 2) := by decide +kernel
theorem d_X_call_21 : decode b_X_call 21 = .ok (.ifnull 16, 3) := by decide +kernel
theorem d_X_call_24 : decode b_X_call 24 = .ok (.aload 6, 2) := by decide +kernel
theorem d_X_call_26 : decode b_X_call 26 = .ok (.getfield 57, 3) := by decide +kernel
theorem d_X_call_29 : decode b_X_call 29 = .ok (.aload 5, 2) := by decide +kernel
theorem d_X_call_31 : decode b_X_call 31 = .ok (.getfield 128, 3) := by decide +kernel
theorem d_X_call_34 : decode b_X_call 34 = .ok (.if_icmp .eq 14, 3) := by decide +kernel
theorem d_X_call_37 : decode b_X_call 37 = .ok (.aload_n 0, 1) := by decide +kernel
theorem d_X_call_38 : decode b_X_call 38 = .ok (.iconst 4, 1) := by decide +kernel
theorem d_X_call_39 : decode b_X_call 39 = .ok (.iload_n 2, 1) := by decide +kernel
theorem d_X_call_40 : decode b_X_call 40 = .ok (.iload_n 1, 1) := by decide +kernel
theorem d_X_call_41 : decode b_X_call 41 = .ok (.ldc2_w 129, 3) := by decide +kernel
theorem d_X_call_44 : decode b_X_call 44 = .ok (.invokevirtual 131, 3) := by decide +kernel
theorem d_X_call_47 : decode b_X_call 47 = .ok (.lreturn, 1) := by decide +kernel
theorem d_X_call_48 : decode b_X_call 48 = .ok (.aload_n 0, 1) := by decide +kernel
theorem d_X_call_49 : decode b_X_call 49 = .ok (.aload 5, 2) := by decide +kernel
theorem d_X_call_51 : decode b_X_call 51 = .ok (.aload 6, 2) := by decide +kernel
theorem d_X_call_53 : decode b_X_call 53 = .ok (.getfield 64, 3) := by decide +kernel
theorem d_X_call_56 : decode b_X_call 56 = .ok (.lload_n 3, 1) := by decide +kernel
theorem d_X_call_57 : decode b_X_call 57 = .ok (.invokevirtual 135, 3) := by decide +kernel
theorem d_X_call_60 : decode b_X_call 60 = .ok (.lstore 7, 2) := by decide +kernel
theorem d_X_call_62 : decode b_X_call 62 = .ok (.lload 7, 2) := by decide +kernel
theorem d_X_call_64 : decode b_X_call 64 = .ok (.lconst 0, 1) := by decide +kernel
theorem d_X_call_65 : decode b_X_call 65 = .ok (.lcmp, 1) := by decide +kernel
theorem d_X_call_66 : decode b_X_call 66 = .ok (.ifCond .eq 13, 3) := by decide +kernel
theorem d_X_call_69 : decode b_X_call 69 = .ok (.aload_n 0, 1) := by decide +kernel
theorem d_X_call_70 : decode b_X_call 70 = .ok (.iconst 4, 1) := by decide +kernel
theorem d_X_call_71 : decode b_X_call 71 = .ok (.iload_n 2, 1) := by decide +kernel
theorem d_X_call_72 : decode b_X_call 72 = .ok (.iload_n 1, 1) := by decide +kernel
theorem d_X_call_73 : decode b_X_call 73 = .ok (.lload 7, 2) := by decide +kernel
theorem d_X_call_75 : decode b_X_call 75 = .ok (.invokevirtual 131, 3) := by decide +kernel
theorem d_X_call_78 : decode b_X_call 78 = .ok (.lreturn, 1) := by decide +kernel
theorem d_X_call_79 : decode b_X_call 79 = .ok (.lload_n 3, 1) := by decide +kernel
theorem d_X_call_80 : decode b_X_call 80 = .ok (.aload_n 0, 1) := by decide +kernel
theorem d_X_call_81 : decode b_X_call 81 = .ok (.getfield 22, 3) := by decide +kernel
theorem d_X_call_84 : decode b_X_call 84 = .ok (.aload 5, 2) := by decide +kernel
theorem d_X_call_86 : decode b_X_call 86 = .ok (.getfield 139, 3) := by decide +kernel
theorem d_X_call_89 : decode b_X_call 89 = .ok (.invokevirtual 142, 3) := by decide +kernel
theorem d_X_call_92 : decode b_X_call 92 = .ok (.ladd, 1) := by decide +kernel
theorem d_X_call_93 : decode b_X_call 93 = .ok (.lstore 9, 2) := by decide +kernel
theorem d_X_call_95 : decode b_X_call 95 = .ok (.aload 5, 2) := by decide +kernel
theorem d_X_call_97 : decode b_X_call 97 = .ok (.getfield 139, 3) := by decide +kernel
theorem d_X_call_100 : decode b_X_call 100 = .ok (.iconst (-1), 1) := by decide +kernel
theorem d_X_call_101 : decode b_X_call 101 = .ok (.if_icmp .eq 49, 3) := by decide +kernel
theorem d_X_call_104 : decode b_X_call 104 = .ok (.aload 6, 2) := by decide +kernel
theorem d_X_call_106 : decode b_X_call 106 = .ok (.getfield 64, 3) := by decide +kernel
theorem d_X_call_109 : decode b_X_call 109 = .ok (.invokevirtual 68, 3) := by decide +kernel
theorem d_X_call_112 : decode b_X_call 112 = .ok (.ifCond .eq 38, 3) := by decide +kernel
theorem d_X_call_115 : decode b_X_call 115 = .ok (.aload_n 0, 1) := by decide +kernel
theorem d_X_call_116 : decode b_X_call 116 = .ok (.getfield 22, 3) := by decide +kernel
theorem d_X_call_119 : decode b_X_call 119 = .ok (.aload 5, 2) := by decide +kernel
theorem d_X_call_121 : decode b_X_call 121 = .ok (.getfield 139, 3) := by decide +kernel
theorem d_X_call_124 : decode b_X_call 124 = .ok (.invokevirtual 146, 3) := by decide +kernel
theorem d_X_call_127 : decode b_X_call 127 = .ok (.aload 6, 2) := by decide +kernel
theorem d_X_call_129 : decode b_X_call 129 = .ok (.getfield 64, 3) := by decide +kernel
theorem d_X_call_132 : decode b_X_call 132 = .ok (.iload_n 1, 1) := by decide +kernel
theorem d_X_call_133 : decode b_X_call 133 = .ok (.iload_n 2, 1) := by decide +kernel
theorem d_X_call_134 : decode b_X_call 134 = .ok (.lload 9, 2) := by decide +kernel
theorem d_X_call_136 : decode b_X_call 136 = .ok (.invokevirtual 150, 3) := by decide +kernel
theorem d_X_call_139 : decode b_X_call 139 = .ok (.aload_n 0, 1) := by decide +kernel
theorem d_X_call_140 : decode b_X_call 140 = .ok (.iconst 5, 1) := by decide +kernel
theorem d_X_call_141 : decode b_X_call 141 = .ok (.iload_n 2, 1) := by decide +kernel
theorem d_X_call_142 : decode b_X_call 142 = .ok (.iload_n 1, 1) := by decide +kernel
theorem d_X_call_143 : decode b_X_call 143 = .ok (.ldc2_w 154, 3) := by decide +kernel
theorem d_X_call_146 : decode b_X_call 146 = .ok (.invokevirtual 131, 3) := by decide +kernel
theorem d_X_call_149 : decode b_X_call 149 = .ok (.lreturn, 1) := by decide +kernel
theorem d_X_call_150 : decode b_X_call 150 = .ok (.aload 5, 2) := by decide +kernel
theorem d_X_call_152 : decode b_X_call 152 = .ok (.invokevirtual 156, 3) := by decide +kernel
theorem d_X_call_155 : decode b_X_call 155 = .ok (.istore 11, 2) := by decide +kernel
theorem d_X_call_157 : decode b_X_call 157 = .ok (.iload 11, 2) := by decide +kernel
theorem d_X_call_159 : decode b_X_call 159 = .ok (.ifCond .eq 19, 3) := by decide +kernel
theorem d_X_call_162 : decode b_X_call 162 = .ok (.aload_n 0, 1) := by decide +kernel
theorem d_X_call_163 : decode b_X_call 163 = .ok (.iload 11, 2) := by decide +kernel
theorem d_X_call_165 : decode b_X_call 165 = .ok (.iload_n 2, 1) := by decide +kernel
theorem d_X_call_166 : decode b_X_call 166 = .ok (.iload_n 1, 1) := by decide +kernel
theorem d_X_call_167 : decode b_X_call 167 = .ok (.ldc2_w 160, 3) := by decide +kernel
theorem d_X_call_170 : decode b_X_call 170 = .ok (.iload 11, 2) := by decide +kernel
theorem d_X_call_172 : decode b_X_call 172 = .ok (.i2l, 1) := by decide +kernel
theorem d_X_call_173 : decode b_X_call 173 = .ok (.lsub, 1) := by decide +kernel
theorem d_X_call_174 : decode b_X_call 174 = .ok (.invokevirtual 131, 3) := by decide +kernel
theorem d_X_call_177 : decode b_X_call 177 = .ok (.lreturn, 1) := by decide +kernel
theorem d_X_call_178 : decode b_X_call 178 = .ok (.aload_n 0, 1) := by decide +kernel
theorem d_X_call_179 : decode b_X_call 179 = .ok (.getfield 22, 3) := by decide +kernel
theorem d_X_call_182 : decode b_X_call 182 = .ok (.aload 5, 2) := by decide +kernel
theorem d_X_call_184 : decode b_X_call 184 = .ok (.getfield 139, 3) := by decide +kernel
theorem d_X_call_187 : decode b_X_call 187 = .ok (.invokevirtual 146, 3) := by decide +kernel
theorem d_X_call_190 : decode b_X_call 190 = .ok (.aload_n 0, 1) := by decide +kernel
theorem d_X_call_191 : decode b_X_call 191 = .ok (.iconst 0, 1) := by decide +kernel
theorem d_X_call_192 : decode b_X_call 192 = .ok (.iload_n 2, 1) := by decide +kernel
theorem d_X_call_193 : decode b_X_call 193 = .ok (.iload_n 1, 1) := by decide +kernel
theorem d_X_call_194 : decode b_X_call 194 = .ok (.aload 5, 2) := by decide +kernel
theorem d_X_call_196 : decode b_X_call 196 = .ok (.lload 9, 2) := by decide +kernel
theorem d_X_call_198 : decode b_X_call 198 = .ok (.invokevirtual 162, 3) := by decide +kernel
theorem d_X_call_201 : decode b_X_call 201 = .ok (.invokevirtual 131, 3) := by decide +kernel
theorem d_X_call_204 : decode b_X_call 204 = .ok (.lreturn, 1) := by decide +kernel
theorem d_X_build_0 : decode b_X_build 0 = .ok (.aload_n 0, 1) := by decide +kernel
theorem d_X_build_1 : decode b_X_build 1 = .ok (.iload_n 1, 1) := by decide +kernel
theorem d_X_build_2 : decode b_X_build 2 = .ok (.invokevirtual 166, 3) := by decide +kernel
theorem d_X_build_5 : decode b_X_build 5 = .ok (.astore_n 3, 1) := by decide +kernel
theorem d_X_build_6 : decode b_X_build 6 = .ok (.aload_n 3, 1) := by decide +kernel
theorem d_X_build_7 : decode b_X_build 7 = .ok (.ifnull 24, 3) := by decide +kernel
theorem d_X_build_10 : decode b_X_build 10 = .ok (.aload_n 3, 1) := by decide +kernel
theorem d_X_build_11 : decode b_X_build 11 = .ok (.getfield 64, 3) := by decide +kernel
theorem d_X_build_14 : decode b_X_build 14 = .ok (.invokevirtual 68, 3) := by decide +kernel
theorem d_X_build_17 : decode b_X_build 17 = .ok (.ifCond .ne 14, 3) := by decide +kernel
theorem d_X_build_20 : decode b_X_build 20 = .ok (.iload_n 2, 1) := by decide +kernel
theorem d_X_build_21 : decode b_X_build 21 = .ok (.iconst 1, 1) := by decide +kernel
theorem d_X_build_22 : decode b_X_build 22 = .ok (.if_icmp .lt 9, 3) := by decide +kernel
theorem d_X_build_25 : decode b_X_build 25 = .ok (.iload_n 2, 1) := by decide +kernel
theorem d_X_build_26 : decode b_X_build 26 = .ok (.bipush 9, 2) := by decide +kernel
theorem d_X_build_28 : decode b_X_build 28 = .ok (.if_icmp .le 5, 3) := by decide +kernel
theorem d_X_build_31 : decode b_X_build 31 = .ok (.iconst 0, 1) := by decide +kernel
theorem d_X_build_32 : decode b_X_build 32 = .ok (.ireturn, 1) := by decide +kernel
theorem d_X_build_33 : decode b_X_build 33 = .ok (.aload_n 3, 1) := by decide +kernel
theorem d_X_build_34 : decode b_X_build 34 = .ok (.getfield 64, 3) := by decide +kernel
theorem d_X_build_37 : decode b_X_build 37 = .ok (.iload_n 2, 1) := by decide +kernel
theorem d_X_build_38 : decode b_X_build 38 = .ok (.invokevirtual 169, 3) := by decide +kernel
theorem d_X_build_41 : decode b_X_build 41 = .ok (.iconst 1, 1) := by decide +kernel
theorem d_X_build_42 : decode b_X_build 42 = .ok (.ireturn, 1) := by decide +kernel
theorem d_X_turn_0 : decode b_X_turn 0 = .ok (.aload_n 0, 1) := by decide +kernel
theorem d_X_turn_1 : decode b_X_turn 1 = .ok (.iload_n 1, 1) := by decide +kernel
theorem d_X_turn_2 : decode b_X_turn 2 = .ok (.invokevirtual 166, 3) := by decide +kernel
theorem d_X_turn_5 : decode b_X_turn 5 = .ok (.astore_n 2, 1) := by decide +kernel
theorem d_X_turn_6 : decode b_X_turn 6 = .ok (.aload_n 2, 1) := by decide +kernel
theorem d_X_turn_7 : decode b_X_turn 7 = .ok (.ifnull 13, 3) := by decide +kernel
theorem d_X_turn_10 : decode b_X_turn 10 = .ok (.aload_n 2, 1) := by decide +kernel
theorem d_X_turn_11 : decode b_X_turn 11 = .ok (.getfield 64, 3) := by decide +kernel
theorem d_X_turn_14 : decode b_X_turn 14 = .ok (.invokevirtual 68, 3) := by decide +kernel
theorem d_X_turn_17 : decode b_X_turn 17 = .ok (.ifCond .ne 5, 3) := by decide +kernel
theorem d_X_turn_20 : decode b_X_turn 20 = .ok (.iconst (-1), 1) := by decide +kernel
theorem d_X_turn_21 : decode b_X_turn 21 = .ok (.ireturn, 1) := by decide +kernel
theorem d_X_turn_22 : decode b_X_turn 22 = .ok (.aload_n 2, 1) := by decide +kernel
theorem d_X_turn_23 : decode b_X_turn 23 = .ok (.getfield 64, 3) := by decide +kernel
theorem d_X_turn_26 : decode b_X_turn 26 = .ok (.invokevirtual 171, 3) := by decide +kernel
theorem d_X_turn_29 : decode b_X_turn 29 = .ok (.istore_n 3, 1) := by decide +kernel
theorem d_X_turn_30 : decode b_X_turn 30 = .ok (.aload_n 0, 1) := by decide +kernel
theorem d_X_turn_31 : decode b_X_turn 31 = .ok (.iconst 4, 1) := by decide +kernel
theorem d_X_turn_32 : decode b_X_turn 32 = .ok (.invokevirtual 174, 3) := by decide +kernel
theorem d_X_turn_35 : decode b_X_turn 35 = .ok (.istore 4, 2) := by decide +kernel
theorem d_X_turn_37 : decode b_X_turn 37 = .ok (.aload_n 0, 1) := by decide +kernel
theorem d_X_turn_38 : decode b_X_turn 38 = .ok (.iconst 5, 1) := by decide +kernel
theorem d_X_turn_39 : decode b_X_turn 39 = .ok (.invokevirtual 174, 3) := by decide +kernel
theorem d_X_turn_42 : decode b_X_turn 42 = .ok (.istore 5, 2) := by decide +kernel
theorem d_X_turn_44 : decode b_X_turn 44 = .ok (.iconst 0, 1) := by decide +kernel
theorem d_X_turn_45 : decode b_X_turn 45 = .ok (.istore 6, 2) := by decide +kernel
theorem d_X_turn_47 : decode b_X_turn 47 = .ok (.iload_n 1, 1) := by decide +kernel
theorem d_X_turn_48 : decode b_X_turn 48 = .ok (.iconst 1, 1) := by decide +kernel
theorem d_X_turn_49 : decode b_X_turn 49 = .ok (.iadd, 1) := by decide +kernel
theorem d_X_turn_50 : decode b_X_turn 50 = .ok (.istore 7, 2) := by decide +kernel
theorem d_X_turn_52 : decode b_X_turn 52 = .ok (.iload 7, 2) := by decide +kernel
theorem d_X_turn_54 : decode b_X_turn 54 = .ok (.aload_n 0, 1) := by decide +kernel
theorem d_X_turn_55 : decode b_X_turn 55 = .ok (.getfield 15, 3) := by decide +kernel
theorem d_X_turn_58 : decode b_X_turn 58 = .ok (.if_icmp .ge 42, 3) := by decide +kernel
theorem d_X_turn_61 : decode b_X_turn 61 = .ok (.aload_n 0, 1) := by decide +kernel
theorem d_X_turn_62 : decode b_X_turn 62 = .ok (.getfield 11, 3) := by decide +kernel
theorem d_X_turn_65 : decode b_X_turn 65 = .ok (.iload 7, 2) := by decide +kernel
theorem d_X_turn_67 : decode b_X_turn 67 = .ok (.aaload, 1) := by decide +kernel
theorem d_X_turn_68 : decode b_X_turn 68 = .ok (.iload_n 1, 1) := by decide +kernel
theorem d_X_turn_69 : decode b_X_turn 69 = .ok (.iload 4, 2) := by decide +kernel
theorem d_X_turn_71 : decode b_X_turn 71 = .ok (.iload 5, 2) := by decide +kernel
theorem d_X_turn_73 : decode b_X_turn 73 = .ok (.invokestatic 177, 3) := by decide +kernel
theorem d_X_turn_76 : decode b_X_turn 76 = .ok (.istore 8, 2) := by decide +kernel
theorem d_X_turn_78 : decode b_X_turn 78 = .ok (.aload_n 0, 1) := by decide +kernel
theorem d_X_turn_79 : decode b_X_turn 79 = .ok (.iload 8, 2) := by decide +kernel
theorem d_X_turn_81 : decode b_X_turn 81 = .ok (.iload 7, 2) := by decide +kernel
theorem d_X_turn_83 : decode b_X_turn 83 = .ok (.iload_n 3, 1) := by decide +kernel
theorem d_X_turn_84 : decode b_X_turn 84 = .ok (.i2l, 1) := by decide +kernel
theorem d_X_turn_85 : decode b_X_turn 85 = .ok (.invokevirtual 181, 3) := by decide +kernel
theorem d_X_turn_88 : decode b_X_turn 88 = .ok (.ifCond .eq 6, 3) := by decide +kernel
theorem d_X_turn_91 : decode b_X_turn 91 = .ok (.iinc 6 1, 3) := by decide +kernel
theorem d_X_turn_94 : decode b_X_turn 94 = .ok (.iinc 7 1, 3) := by decide +kernel
theorem d_X_turn_97 : decode b_X_turn 97 = .ok (.goto (-45), 3) := by decide +kernel
theorem d_X_turn_100 : decode b_X_turn 100 = .ok (.aload_n 2, 1) := by decide +kernel
theorem d_X_turn_101 : decode b_X_turn 101 = .ok (.getfield 64, 3) := by decide +kernel
theorem d_X_turn_104 : decode b_X_turn 104 = .ok (.invokevirtual 68, 3) := by decide +kernel
theorem d_X_turn_107 : decode b_X_turn 107 = .ok (.ifCond .ne 11, 3) := by decide +kernel
theorem d_X_turn_110 : decode b_X_turn 110 = .ok (.aload_n 0, 1) := by decide +kernel
theorem d_X_turn_111 : decode b_X_turn 111 = .ok (.aload_n 2, 1) := by decide +kernel
theorem d_X_turn_112 : decode b_X_turn 112 = .ok (.getfield 64, 3) := by decide +kernel
theorem d_X_turn_115 : decode b_X_turn 115 = .ok (.invokevirtual 185, 3) := by decide +kernel
theorem d_X_turn_118 : decode b_X_turn 118 = .ok (.iload 6, 2) := by decide +kernel
theorem d_X_turn_120 : decode b_X_turn 120 = .ok (.ireturn, 1) := by decide +kernel
theorem d_X_building_0 : decode b_X_building 0 = .ok (.aload_n 0, 1) := by decide +kernel
theorem d_X_building_1 : decode b_X_building 1 = .ok (.iload_n 1, 1) := by decide +kernel
theorem d_X_building_2 : decode b_X_building 2 = .ok (.invokevirtual 166, 3) := by decide +kernel
theorem d_X_building_5 : decode b_X_building 5 = .ok (.astore_n 3, 1) := by decide +kernel
theorem d_X_building_6 : decode b_X_building 6 = .ok (.aload_n 3, 1) := by decide +kernel
theorem d_X_building_7 : decode b_X_building 7 = .ok (.ifnonnull 5, 3) := by decide +kernel
theorem d_X_building_10 : decode b_X_building 10 = .ok (.iconst (-1), 1) := by decide +kernel
theorem d_X_building_11 : decode b_X_building 11 = .ok (.ireturn, 1) := by decide +kernel
theorem d_X_building_12 : decode b_X_building 12 = .ok (.iload_n 2, 1) := by decide +kernel
theorem d_X_building_13 : decode b_X_building 13 = .ok (.lookupswitch 43 #[(0, 27), (1, 35)], 27) := by decide +kernel
theorem d_X_building_40 : decode b_X_building 40 = .ok (.aload_n 3, 1) := by decide +kernel
theorem d_X_building_41 : decode b_X_building 41 = .ok (.getfield 64, 3) := by decide +kernel
theorem d_X_building_44 : decode b_X_building 44 = .ok (.getfield 189, 3) := by decide +kernel
theorem d_X_building_47 : decode b_X_building 47 = .ok (.ireturn, 1) := by decide +kernel
theorem d_X_building_48 : decode b_X_building 48 = .ok (.aload_n 3, 1) := by decide +kernel
theorem d_X_building_49 : decode b_X_building 49 = .ok (.getfield 64, 3) := by decide +kernel
theorem d_X_building_52 : decode b_X_building 52 = .ok (.getfield 192, 3) := by decide +kernel
theorem d_X_building_55 : decode b_X_building 55 = .ok (.ireturn, 1) := by decide +kernel
theorem d_X_building_56 : decode b_X_building 56 = .ok (.iconst (-1), 1) := by decide +kernel
theorem d_X_building_57 : decode b_X_building 57 = .ok (.ireturn, 1) := by decide +kernel
theorem d_X_told_0 : decode b_X_told 0 = .ok (.aload_n 0, 1) := by decide +kernel
theorem d_X_told_1 : decode b_X_told 1 = .ok (.getfield 35, 3) := by decide +kernel
theorem d_X_told_4 : decode b_X_told 4 = .ok (.iload_n 1, 1) := by decide +kernel
theorem d_X_told_5 : decode b_X_told 5 = .ok (.invokevirtual 195, 3) := by decide +kernel
theorem d_X_told_8 : decode b_X_told 8 = .ok (.istore_n 3, 1) := by decide +kernel
theorem d_X_told_9 : decode b_X_told 9 = .ok (.iload_n 3, 1) := by decide +kernel
theorem d_X_told_10 : decode b_X_told 10 = .ok (.iconst (-1), 1) := by decide +kernel
theorem d_X_told_11 : decode b_X_told 11 = .ok (.if_icmp .ne 5, 3) := by decide +kernel
theorem d_X_told_14 : decode b_X_told 14 = .ok (.iconst (-1), 1) := by decide +kernel
theorem d_X_told_15 : decode b_X_told 15 = .ok (.ireturn, 1) := by decide +kernel
theorem d_X_told_16 : decode b_X_told 16 = .ok (.iload_n 2, 1) := by decide +kernel
theorem d_X_told_17 : decode b_X_told 17 = .ok (.tableswitch 57 0 2 #[27, 37, 47], 27) := by decide +kernel
theorem d_X_told_44 : decode b_X_told 44 = .ok (.aload_n 0, 1) := by decide +kernel
theorem d_X_told_45 : decode b_X_told 45 = .ok (.getfield 35, 3) := by decide +kernel
theorem d_X_told_48 : decode b_X_told 48 = .ok (.getfield 198, 3) := by decide +kernel
theorem d_X_told_51 : decode b_X_told 51 = .ok (.iload_n 3, 1) := by decide +kernel
theorem d_X_told_52 : decode b_X_told 52 = .ok (.iaload, 1) := by decide +kernel
theorem d_X_told_53 : decode b_X_told 53 = .ok (.ireturn, 1) := by decide +kernel
theorem d_X_told_54 : decode b_X_told 54 = .ok (.aload_n 0, 1) := by decide +kernel
theorem d_X_told_55 : decode b_X_told 55 = .ok (.getfield 35, 3) := by decide +kernel
theorem d_X_told_58 : decode b_X_told 58 = .ok (.getfield 201, 3) := by decide +kernel
theorem d_X_told_61 : decode b_X_told 61 = .ok (.iload_n 3, 1) := by decide +kernel
theorem d_X_told_62 : decode b_X_told 62 = .ok (.iaload, 1) := by decide +kernel
theorem d_X_told_63 : decode b_X_told 63 = .ok (.ireturn, 1) := by decide +kernel
theorem d_X_told_64 : decode b_X_told 64 = .ok (.aload_n 0, 1) := by decide +kernel
theorem d_X_told_65 : decode b_X_told 65 = .ok (.getfield 35, 3) := by decide +kernel
theorem d_X_told_68 : decode b_X_told 68 = .ok (.getfield 204, 3) := by decide +kernel
theorem d_X_told_71 : decode b_X_told 71 = .ok (.iload_n 3, 1) := by decide +kernel
theorem d_X_told_72 : decode b_X_told 72 = .ok (.iaload, 1) := by decide +kernel
theorem d_X_told_73 : decode b_X_told 73 = .ok (.ireturn, 1) := by decide +kernel
theorem d_X_told_74 : decode b_X_told 74 = .ok (.iconst (-1), 1) := by decide +kernel
theorem d_X_told_75 : decode b_X_told 75 = .ok (.ireturn, 1) := by decide +kernel
theorem d_X_value_0 : decode b_X_value 0 = .ok (.aload_n 0, 1) := by decide +kernel
theorem d_X_value_1 : decode b_X_value 1 = .ok (.getfield 35, 3) := by decide +kernel
theorem d_X_value_4 : decode b_X_value 4 = .ok (.iload_n 1, 1) := by decide +kernel
theorem d_X_value_5 : decode b_X_value 5 = .ok (.invokevirtual 195, 3) := by decide +kernel
theorem d_X_value_8 : decode b_X_value 8 = .ok (.istore_n 2, 1) := by decide +kernel
theorem d_X_value_9 : decode b_X_value 9 = .ok (.iload_n 2, 1) := by decide +kernel
theorem d_X_value_10 : decode b_X_value 10 = .ok (.iconst (-1), 1) := by decide +kernel
theorem d_X_value_11 : decode b_X_value 11 = .ok (.if_icmp .ne 7, 3) := by decide +kernel
theorem d_X_value_14 : decode b_X_value 14 = .ok (.lconst 0, 1) := by decide +kernel
theorem d_X_value_15 : decode b_X_value 15 = .ok (.goto 12, 3) := by decide +kernel
theorem d_X_value_18 : decode b_X_value 18 = .ok (.aload_n 0, 1) := by decide +kernel
theorem d_X_value_19 : decode b_X_value 19 = .ok (.getfield 35, 3) := by decide +kernel
theorem d_X_value_22 : decode b_X_value 22 = .ok (.getfield 207, 3) := by decide +kernel
theorem d_X_value_25 : decode b_X_value 25 = .ok (.iload_n 2, 1) := by decide +kernel
theorem d_X_value_26 : decode b_X_value 26 = .ok (.laload, 1) := by decide +kernel
theorem d_X_value_27 : decode b_X_value 27 = .ok (.lreturn, 1) := by decide +kernel
theorem d_X_count_0 : decode b_X_count 0 = .ok (.iload_n 1, 1) := by decide +kernel
theorem d_X_count_1 : decode b_X_count 1 = .ok (.tableswitch 75 0 4 #[35, 43, 51, 59, 67], 35) := by decide +kernel
theorem d_X_count_36 : decode b_X_count 36 = .ok (.aload_n 0, 1) := by decide +kernel
theorem d_X_count_37 : decode b_X_count 37 = .ok (.getfield 35, 3) := by decide +kernel
theorem d_X_count_40 : decode b_X_count 40 = .ok (.getfield 211, 3) := by decide +kernel
theorem d_X_count_43 : decode b_X_count 43 = .ok (.ireturn, 1) := by decide +kernel
theorem d_X_count_44 : decode b_X_count 44 = .ok (.aload_n 0, 1) := by decide +kernel
theorem d_X_count_45 : decode b_X_count 45 = .ok (.getfield 35, 3) := by decide +kernel
theorem d_X_count_48 : decode b_X_count 48 = .ok (.getfield 214, 3) := by decide +kernel
theorem d_X_count_51 : decode b_X_count 51 = .ok (.ireturn, 1) := by decide +kernel
theorem d_X_count_52 : decode b_X_count 52 = .ok (.aload_n 0, 1) := by decide +kernel
theorem d_X_count_53 : decode b_X_count 53 = .ok (.getfield 35, 3) := by decide +kernel
theorem d_X_count_56 : decode b_X_count 56 = .ok (.getfield 217, 3) := by decide +kernel
theorem d_X_count_59 : decode b_X_count 59 = .ok (.ireturn, 1) := by decide +kernel
theorem d_X_count_60 : decode b_X_count 60 = .ok (.aload_n 0, 1) := by decide +kernel
theorem d_X_count_61 : decode b_X_count 61 = .ok (.getfield 35, 3) := by decide +kernel
theorem d_X_count_64 : decode b_X_count 64 = .ok (.getfield 220, 3) := by decide +kernel
theorem d_X_count_67 : decode b_X_count 67 = .ok (.ireturn, 1) := by decide +kernel
theorem d_X_count_68 : decode b_X_count 68 = .ok (.aload_n 0, 1) := by decide +kernel
theorem d_X_count_69 : decode b_X_count 69 = .ok (.getfield 35, 3) := by decide +kernel
theorem d_X_count_72 : decode b_X_count 72 = .ok (.getfield 223, 3) := by decide +kernel
theorem d_X_count_75 : decode b_X_count 75 = .ok (.ireturn, 1) := by decide +kernel
theorem d_X_count_76 : decode b_X_count 76 = .ok (.iconst (-1), 1) := by decide +kernel
theorem d_X_count_77 : decode b_X_count 77 = .ok (.ireturn, 1) := by decide +kernel
theorem d_X_isKind_0 : decode b_X_isKind 0 = .ok (.iload_n 0, 1) := by decide +kernel
theorem d_X_isKind_1 : decode b_X_isKind 1 = .ok (.ifCond .lt 15, 3) := by decide +kernel
theorem d_X_isKind_4 : decode b_X_isKind 4 = .ok (.iload_n 0, 1) := by decide +kernel
theorem d_X_isKind_5 : decode b_X_isKind 5 = .ok (.getstatic 60, 3) := by decide +kernel
theorem d_X_isKind_8 : decode b_X_isKind 8 = .ok (.arraylength, 1) := by decide +kernel
theorem d_X_isKind_9 : decode b_X_isKind 9 = .ok (.if_icmp .ge 7, 3) := by decide +kernel
theorem d_X_isKind_12 : decode b_X_isKind 12 = .ok (.iconst 1, 1) := by decide +kernel
theorem d_X_isKind_13 : decode b_X_isKind 13 = .ok (.goto 4, 3) := by decide +kernel
theorem d_X_isKind_16 : decode b_X_isKind 16 = .ok (.iconst 0, 1) := by decide +kernel
theorem d_X_isKind_17 : decode b_X_isKind 17 = .ok (.ireturn, 1) := by decide +kernel
theorem d_X_isSort_0 : decode b_X_isSort 0 = .ok (.iload_n 0, 1) := by decide +kernel
theorem d_X_isSort_1 : decode b_X_isSort 1 = .ok (.ifCond .lt 15, 3) := by decide +kernel
theorem d_X_isSort_4 : decode b_X_isSort 4 = .ok (.iload_n 0, 1) := by decide +kernel
theorem d_X_isSort_5 : decode b_X_isSort 5 = .ok (.getstatic 226, 3) := by decide +kernel
theorem d_X_isSort_8 : decode b_X_isSort 8 = .ok (.arraylength, 1) := by decide +kernel
theorem d_X_isSort_9 : decode b_X_isSort 9 = .ok (.if_icmp .ge 7, 3) := by decide +kernel
theorem d_X_isSort_12 : decode b_X_isSort 12 = .ok (.iconst 1, 1) := by decide +kernel
theorem d_X_isSort_13 : decode b_X_isSort 13 = .ok (.goto 4, 3) := by decide +kernel
theorem d_X_isSort_16 : decode b_X_isSort 16 = .ok (.iconst 0, 1) := by decide +kernel
theorem d_X_isSort_17 : decode b_X_isSort 17 = .ok (.ireturn, 1) := by decide +kernel
theorem d_X_isCall_0 : decode b_X_isCall 0 = .ok (.iload_n 0, 1) := by decide +kernel
theorem d_X_isCall_1 : decode b_X_isCall 1 = .ok (.ifCond .lt 13, 3) := by decide +kernel
theorem d_X_isCall_4 : decode b_X_isCall 4 = .ok (.iload_n 0, 1) := by decide +kernel
theorem d_X_isCall_5 : decode b_X_isCall 5 = .ok (.bipush 12, 2) := by decide +kernel
theorem d_X_isCall_7 : decode b_X_isCall 7 = .ok (.if_icmp .ge 7, 3) := by decide +kernel
theorem d_X_isCall_10 : decode b_X_isCall 10 = .ok (.iconst 1, 1) := by decide +kernel
theorem d_X_isCall_11 : decode b_X_isCall 11 = .ok (.goto 4, 3) := by decide +kernel
theorem d_X_isCall_14 : decode b_X_isCall 14 = .ok (.iconst 0, 1) := by decide +kernel
theorem d_X_isCall_15 : decode b_X_isCall 15 = .ok (.ireturn, 1) := by decide +kernel
theorem d_X_fits_0 : decode b_X_fits 0 = .ok (.iload_n 0, 1) := by decide +kernel
theorem d_X_fits_1 : decode b_X_fits 1 = .ok (.ifCond .ne 21, 3) := by decide +kernel
theorem d_X_fits_4 : decode b_X_fits 4 = .ok (.iload_n 1, 1) := by decide +kernel
theorem d_X_fits_5 : decode b_X_fits 5 = .ok (.bipush 32, 2) := by decide +kernel
theorem d_X_fits_7 : decode b_X_fits 7 = .ok (.if_icmp .lt 13, 3) := by decide +kernel
theorem d_X_fits_10 : decode b_X_fits 10 = .ok (.iload_n 1, 1) := by decide +kernel
theorem d_X_fits_11 : decode b_X_fits 11 = .ok (.bipush 126, 2) := by decide +kernel
theorem d_X_fits_13 : decode b_X_fits 13 = .ok (.if_icmp .gt 7, 3) := by decide +kernel
theorem d_X_fits_16 : decode b_X_fits 16 = .ok (.iconst 1, 1) := by decide +kernel
theorem d_X_fits_17 : decode b_X_fits 17 = .ok (.goto 4, 3) := by decide +kernel
theorem d_X_fits_20 : decode b_X_fits 20 = .ok (.iconst 0, 1) := by decide +kernel
theorem d_X_fits_21 : decode b_X_fits 21 = .ok (.ireturn, 1) := by decide +kernel
theorem d_X_fits_22 : decode b_X_fits 22 = .ok (.iload_n 0, 1) := by decide +kernel
theorem d_X_fits_23 : decode b_X_fits 23 = .ok (.iconst 1, 1) := by decide +kernel
theorem d_X_fits_24 : decode b_X_fits 24 = .ok (.if_icmp .ne 33, 3) := by decide +kernel
theorem d_X_fits_27 : decode b_X_fits 27 = .ok (.iload_n 1, 1) := by decide +kernel
theorem d_X_fits_28 : decode b_X_fits 28 = .ok (.bipush 97, 2) := by decide +kernel
theorem d_X_fits_30 : decode b_X_fits 30 = .ok (.if_icmp .lt 9, 3) := by decide +kernel
theorem d_X_fits_33 : decode b_X_fits 33 = .ok (.iload_n 1, 1) := by decide +kernel
theorem d_X_fits_34 : decode b_X_fits 34 = .ok (.bipush 122, 2) := by decide +kernel
theorem d_X_fits_36 : decode b_X_fits 36 = .ok (.if_icmp .le 15, 3) := by decide +kernel
theorem d_X_fits_39 : decode b_X_fits 39 = .ok (.iload_n 1, 1) := by decide +kernel
theorem d_X_fits_40 : decode b_X_fits 40 = .ok (.bipush 46, 2) := by decide +kernel
theorem d_X_fits_42 : decode b_X_fits 42 = .ok (.if_icmp .eq 9, 3) := by decide +kernel
theorem d_X_fits_45 : decode b_X_fits 45 = .ok (.iload_n 1, 1) := by decide +kernel
theorem d_X_fits_46 : decode b_X_fits 46 = .ok (.bipush 47, 2) := by decide +kernel
theorem d_X_fits_48 : decode b_X_fits 48 = .ok (.if_icmp .ne 7, 3) := by decide +kernel
theorem d_X_fits_51 : decode b_X_fits 51 = .ok (.iconst 1, 1) := by decide +kernel
theorem d_X_fits_52 : decode b_X_fits 52 = .ok (.goto 4, 3) := by decide +kernel
theorem d_X_fits_55 : decode b_X_fits 55 = .ok (.iconst 0, 1) := by decide +kernel
theorem d_X_fits_56 : decode b_X_fits 56 = .ok (.ireturn, 1) := by decide +kernel
theorem d_X_fits_57 : decode b_X_fits 57 = .ok (.iload_n 1, 1) := by decide +kernel
theorem d_X_fits_58 : decode b_X_fits 58 = .ok (.ifCond .lt 14, 3) := by decide +kernel
theorem d_X_fits_61 : decode b_X_fits 61 = .ok (.iload_n 1, 1) := by decide +kernel
theorem d_X_fits_62 : decode b_X_fits 62 = .ok (.sipush 255, 3) := by decide +kernel
theorem d_X_fits_65 : decode b_X_fits 65 = .ok (.if_icmp .gt 7, 3) := by decide +kernel
theorem d_X_fits_68 : decode b_X_fits 68 = .ok (.iconst 1, 1) := by decide +kernel
theorem d_X_fits_69 : decode b_X_fits 69 = .ok (.goto 4, 3) := by decide +kernel
theorem d_X_fits_72 : decode b_X_fits 72 = .ok (.iconst 0, 1) := by decide +kernel
theorem d_X_fits_73 : decode b_X_fits 73 = .ok (.ireturn, 1) := by decide +kernel
theorem d_X_thingAt_0 : decode b_X_thingAt 0 = .ok (.iload_n 1, 1) := by decide +kernel
theorem d_X_thingAt_1 : decode b_X_thingAt 1 = .ok (.ifCond .lt 18, 3) := by decide +kernel
theorem d_X_thingAt_4 : decode b_X_thingAt 4 = .ok (.iload_n 1, 1) := by decide +kernel
theorem d_X_thingAt_5 : decode b_X_thingAt 5 = .ok (.bipush 60, 2) := by decide +kernel
theorem d_X_thingAt_7 : decode b_X_thingAt 7 = .ok (.if_icmp .ge 12, 3) := by decide +kernel
theorem d_X_thingAt_10 : decode b_X_thingAt 10 = .ok (.aload_n 0, 1) := by decide +kernel
theorem d_X_thingAt_11 : decode b_X_thingAt 11 = .ok (.getfield 11, 3) := by decide +kernel
theorem d_X_thingAt_14 : decode b_X_thingAt 14 = .ok (.iload_n 1, 1) := by decide +kernel
theorem d_X_thingAt_15 : decode b_X_thingAt 15 = .ok (.aaload, 1) := by decide +kernel
theorem d_X_thingAt_16 : decode b_X_thingAt 16 = .ok (.goto 4, 3) := by decide +kernel
theorem d_X_thingAt_19 : decode b_X_thingAt 19 = .ok (.aconst_null, 1) := by decide +kernel
theorem d_X_thingAt_20 : decode b_X_thingAt 20 = .ok (.areturn, 1) := by decide +kernel
theorem d_X_houseAt_0 : decode b_X_houseAt 0 = .ok (.aload_n 0, 1) := by decide +kernel
theorem d_X_houseAt_1 : decode b_X_houseAt 1 = .ok (.iload_n 1, 1) := by decide +kernel
theorem d_X_houseAt_2 : decode b_X_houseAt 2 = .ok (.invokevirtual 53, 3) := by decide +kernel
theorem d_X_houseAt_5 : decode b_X_houseAt 5 = .ok (.astore_n 2, 1) := by decide +kernel
theorem d_X_houseAt_6 : decode b_X_houseAt 6 = .ok (.aload_n 2, 1) := by decide +kernel
theorem d_X_houseAt_7 : decode b_X_houseAt 7 = .ok (.ifnull 14, 3) := by decide +kernel
theorem d_X_houseAt_10 : decode b_X_houseAt 10 = .ok (.aload_n 2, 1) := by decide +kernel
theorem d_X_houseAt_11 : decode b_X_houseAt 11 = .ok (.getfield 57, 3) := by decide +kernel
theorem d_X_houseAt_14 : decode b_X_houseAt 14 = .ok (.ifCond .ne 7, 3) := by decide +kernel
theorem d_X_houseAt_17 : decode b_X_houseAt 17 = .ok (.aload_n 2, 1) := by decide +kernel
theorem d_X_houseAt_18 : decode b_X_houseAt 18 = .ok (.goto 4, 3) := by decide +kernel
theorem d_X_houseAt_21 : decode b_X_houseAt 21 = .ok (.aconst_null, 1) := by decide +kernel
theorem d_X_houseAt_22 : decode b_X_houseAt 22 = .ok (.areturn, 1) := by decide +kernel
theorem d_X_partAt_0 : decode b_X_partAt 0 = .ok (.iload_n 1, 1) := by decide +kernel
theorem d_X_partAt_1 : decode b_X_partAt 1 = .ok (.invokestatic 103, 3) := by decide +kernel
theorem d_X_partAt_4 : decode b_X_partAt 4 = .ok (.ifCond .eq 12, 3) := by decide +kernel
theorem d_X_partAt_7 : decode b_X_partAt 7 = .ok (.aload_n 0, 1) := by decide +kernel
theorem d_X_partAt_8 : decode b_X_partAt 8 = .ok (.getfield 28, 3) := by decide +kernel
theorem d_X_partAt_11 : decode b_X_partAt 11 = .ok (.iload_n 1, 1) := by decide +kernel
theorem d_X_partAt_12 : decode b_X_partAt 12 = .ok (.aaload, 1) := by decide +kernel
theorem d_X_partAt_13 : decode b_X_partAt 13 = .ok (.goto 4, 3) := by decide +kernel
theorem d_X_partAt_16 : decode b_X_partAt 16 = .ok (.aconst_null, 1) := by decide +kernel
theorem d_X_partAt_17 : decode b_X_partAt 17 = .ok (.areturn, 1) := by decide +kernel
theorem d_X_keep_0 : decode b_X_keep 0 = .ok (.aload_n 0, 1) := by decide +kernel
theorem d_X_keep_1 : decode b_X_keep 1 = .ok (.getfield 11, 3) := by decide +kernel
theorem d_X_keep_4 : decode b_X_keep 4 = .ok (.aload_n 0, 1) := by decide +kernel
theorem d_X_keep_5 : decode b_X_keep 5 = .ok (.getfield 15, 3) := by decide +kernel
theorem d_X_keep_8 : decode b_X_keep 8 = .ok (.aload_n 1, 1) := by decide +kernel
theorem d_X_keep_9 : decode b_X_keep 9 = .ok (.aastore, 1) := by decide +kernel
theorem d_X_keep_10 : decode b_X_keep 10 = .ok (.aload_n 0, 1) := by decide +kernel
theorem d_X_keep_11 : decode b_X_keep 11 = .ok (.dup, 1) := by decide +kernel
theorem d_X_keep_12 : decode b_X_keep 12 = .ok (.getfield 15, 3) := by decide +kernel
theorem d_X_keep_15 : decode b_X_keep 15 = .ok (.iconst 1, 1) := by decide +kernel
theorem d_X_keep_16 : decode b_X_keep 16 = .ok (.iadd, 1) := by decide +kernel
theorem d_X_keep_17 : decode b_X_keep 17 = .ok (.putfield 15, 3) := by decide +kernel
theorem d_X_keep_20 : decode b_X_keep 20 = .ok (.aload_n 0, 1) := by decide +kernel
theorem d_X_keep_21 : decode b_X_keep 21 = .ok (.getfield 15, 3) := by decide +kernel
theorem d_X_keep_24 : decode b_X_keep 24 = .ok (.iconst 1, 1) := by decide +kernel
theorem d_X_keep_25 : decode b_X_keep 25 = .ok (.isub, 1) := by decide +kernel
theorem d_X_keep_26 : decode b_X_keep 26 = .ok (.ireturn, 1) := by decide +kernel
theorem d_X_hasLostItsPlace_0 : decode b_X_hasLostItsPlace 0 = .ok (.aload_n 1, 1) := by decide +kernel
theorem d_X_hasLostItsPlace_1 : decode b_X_hasLostItsPlace 1 = .ok (.ifnull 25, 3) := by decide +kernel
theorem d_X_hasLostItsPlace_4 : decode b_X_hasLostItsPlace 4 = .ok (.aload_n 1, 1) := by decide +kernel
theorem d_X_hasLostItsPlace_5 : decode b_X_hasLostItsPlace 5 = .ok (.getfield 57, 3) := by decide +kernel
theorem d_X_hasLostItsPlace_8 : decode b_X_hasLostItsPlace 8 = .ok (.ifCond .eq 18, 3) := by decide +kernel
theorem d_X_hasLostItsPlace_11 : decode b_X_hasLostItsPlace 11 = .ok (.aload_n 0, 1) := by decide +kernel
theorem d_X_hasLostItsPlace_12 : decode b_X_hasLostItsPlace 12 = .ok (.aload_n 1, 1) := by decide +kernel
theorem d_X_hasLostItsPlace_13 : decode b_X_hasLostItsPlace 13 = .ok (.getfield 79, 3) := by decide +kernel
theorem d_X_hasLostItsPlace_16 : decode b_X_hasLostItsPlace 16 = .ok (.invokevirtual 53, 3) := by decide +kernel
theorem d_X_hasLostItsPlace_19 : decode b_X_hasLostItsPlace 19 = .ok (.ifnonnull 7, 3) := by decide +kernel
theorem d_X_hasLostItsPlace_22 : decode b_X_hasLostItsPlace 22 = .ok (.iconst 1, 1) := by decide +kernel
theorem d_X_hasLostItsPlace_23 : decode b_X_hasLostItsPlace 23 = .ok (.goto 4, 3) := by decide +kernel
theorem d_X_hasLostItsPlace_26 : decode b_X_hasLostItsPlace 26 = .ok (.iconst 0, 1) := by decide +kernel
theorem d_X_hasLostItsPlace_27 : decode b_X_hasLostItsPlace 27 = .ok (.ireturn, 1) := by decide +kernel
theorem d_X_lyingJustIn_0 : decode b_X_lyingJustIn 0 = .ok (.iconst 0, 1) := by decide +kernel
theorem d_X_lyingJustIn_1 : decode b_X_lyingJustIn 1 = .ok (.istore_n 2, 1) := by decide +kernel
theorem d_X_lyingJustIn_2 : decode b_X_lyingJustIn 2 = .ok (.iload_n 1, 1) := by decide +kernel
theorem d_X_lyingJustIn_3 : decode b_X_lyingJustIn 3 = .ok (.iconst 1, 1) := by decide +kernel
theorem d_X_lyingJustIn_4 : decode b_X_lyingJustIn 4 = .ok (.iadd, 1) := by decide +kernel
theorem d_X_lyingJustIn_5 : decode b_X_lyingJustIn 5 = .ok (.istore_n 3, 1) := by decide +kernel
theorem d_X_lyingJustIn_6 : decode b_X_lyingJustIn 6 = .ok (.iload_n 3, 1) := by decide +kernel
theorem d_X_lyingJustIn_7 : decode b_X_lyingJustIn 7 = .ok (.aload_n 0, 1) := by decide +kernel
theorem d_X_lyingJustIn_8 : decode b_X_lyingJustIn 8 = .ok (.getfield 15, 3) := by decide +kernel
theorem d_X_lyingJustIn_11 : decode b_X_lyingJustIn 11 = .ok (.if_icmp .ge 34, 3) := by decide +kernel
theorem d_X_lyingJustIn_14 : decode b_X_lyingJustIn 14 = .ok (.aload_n 0, 1) := by decide +kernel
theorem d_X_lyingJustIn_15 : decode b_X_lyingJustIn 15 = .ok (.getfield 11, 3) := by decide +kernel
theorem d_X_lyingJustIn_18 : decode b_X_lyingJustIn 18 = .ok (.iload_n 3, 1) := by decide +kernel
theorem d_X_lyingJustIn_19 : decode b_X_lyingJustIn 19 = .ok (.aaload, 1) := by decide +kernel
theorem d_X_lyingJustIn_20 : decode b_X_lyingJustIn 20 = .ok (.ifnull 19, 3) := by decide +kernel
theorem d_X_lyingJustIn_23 : decode b_X_lyingJustIn 23 = .ok (.aload_n 0, 1) := by decide +kernel
theorem d_X_lyingJustIn_24 : decode b_X_lyingJustIn 24 = .ok (.getfield 11, 3) := by decide +kernel
theorem d_X_lyingJustIn_27 : decode b_X_lyingJustIn 27 = .ok (.iload_n 3, 1) := by decide +kernel
theorem d_X_lyingJustIn_28 : decode b_X_lyingJustIn 28 = .ok (.aaload, 1) := by decide +kernel
theorem d_X_lyingJustIn_29 : decode b_X_lyingJustIn 29 = .ok (.getfield 79, 3) := by decide +kernel
theorem d_X_lyingJustIn_32 : decode b_X_lyingJustIn 32 = .ok (.iload_n 1, 1) := by decide +kernel
theorem d_X_lyingJustIn_33 : decode b_X_lyingJustIn 33 = .ok (.if_icmp .ne 6, 3) := by decide +kernel
theorem d_X_lyingJustIn_36 : decode b_X_lyingJustIn 36 = .ok (.iinc 2 1, 3) := by decide +kernel
theorem d_X_lyingJustIn_39 : decode b_X_lyingJustIn 39 = .ok (.iinc 3 1, 3) := by decide +kernel
theorem d_X_lyingJustIn_42 : decode b_X_lyingJustIn 42 = .ok (.goto (-36), 3) := by decide +kernel
theorem d_X_lyingJustIn_45 : decode b_X_lyingJustIn 45 = .ok (.iload_n 2, 1) := by decide +kernel
theorem d_X_lyingJustIn_46 : decode b_X_lyingJustIn 46 = .ok (.ireturn, 1) := by decide +kernel
theorem d_X_refusalOf_0 : decode b_X_refusalOf 0 = .ok (.lload_n 3, 1) := by decide +kernel
theorem d_X_refusalOf_1 : decode b_X_refusalOf 1 = .ok (.aload_n 1, 1) := by decide +kernel
theorem d_X_refusalOf_2 : decode b_X_refusalOf 2 = .ok (.getfield 229, 3) := by decide +kernel
theorem d_X_refusalOf_5 : decode b_X_refusalOf 5 = .ok (.lcmp, 1) := by decide +kernel
theorem d_X_refusalOf_6 : decode b_X_refusalOf 6 = .ok (.ifCond .lt 12, 3) := by decide +kernel
theorem d_X_refusalOf_9 : decode b_X_refusalOf 9 = .ok (.lload_n 3, 1) := by decide +kernel
theorem d_X_refusalOf_10 : decode b_X_refusalOf 10 = .ok (.aload_n 1, 1) := by decide +kernel
theorem d_X_refusalOf_11 : decode b_X_refusalOf 11 = .ok (.getfield 233, 3) := by decide +kernel
theorem d_X_refusalOf_14 : decode b_X_refusalOf 14 = .ok (.lcmp, 1) := by decide +kernel
theorem d_X_refusalOf_15 : decode b_X_refusalOf 15 = .ok (.ifCond .le 7, 3) := by decide +kernel
theorem d_X_refusalOf_18 : decode b_X_refusalOf 18 = .ok (.ldc2_w 236, 3) := by decide +kernel
theorem d_X_refusalOf_21 : decode b_X_refusalOf 21 = .ok (.lreturn, 1) := by decide +kernel
theorem d_X_refusalOf_22 : decode b_X_refusalOf 22 = .ok (.aload_n 1, 1) := by decide +kernel
theorem d_X_refusalOf_23 : decode b_X_refusalOf 23 = .ok (.getfield 139, 3) := by decide +kernel
theorem d_X_refusalOf_26 : decode b_X_refusalOf 26 = .ok (.iconst (-1), 1) := by decide +kernel
theorem d_X_refusalOf_27 : decode b_X_refusalOf 27 = .ok (.if_icmp .ne 5, 3) := by decide +kernel
theorem d_X_refusalOf_30 : decode b_X_refusalOf 30 = .ok (.lconst 0, 1) := by decide +kernel
theorem d_X_refusalOf_31 : decode b_X_refusalOf 31 = .ok (.lreturn, 1) := by decide +kernel
theorem d_X_refusalOf_32 : decode b_X_refusalOf 32 = .ok (.aload_n 0, 1) := by decide +kernel
theorem d_X_refusalOf_33 : decode b_X_refusalOf 33 = .ok (.getfield 22, 3) := by decide +kernel
theorem d_X_refusalOf_36 : decode b_X_refusalOf 36 = .ok (.aload_n 1, 1) := by decide +kernel
theorem d_X_refusalOf_37 : decode b_X_refusalOf 37 = .ok (.getfield 139, 3) := by decide +kernel
theorem d_X_refusalOf_40 : decode b_X_refusalOf 40 = .ok (.invokevirtual 100, 3) := by decide +kernel
theorem d_X_refusalOf_43 : decode b_X_refusalOf 43 = .ok (.ifCond .ne 7, 3) := by decide +kernel
theorem d_X_refusalOf_46 : decode b_X_refusalOf 46 = .ok (.ldc2_w 238, 3) := by decide +kernel
theorem d_X_refusalOf_49 : decode b_X_refusalOf 49 = .ok (.lreturn, 1) := by decide +kernel
theorem d_X_refusalOf_50 : decode b_X_refusalOf 50 = .ok (.aload_n 2, 1) := by decide +kernel
theorem d_X_refusalOf_51 : decode b_X_refusalOf 51 = .ok (.invokevirtual 68, 3) := by decide +kernel
theorem d_X_refusalOf_54 : decode b_X_refusalOf 54 = .ok (.ifCond .eq 16, 3) := by decide +kernel
theorem d_X_refusalOf_57 : decode b_X_refusalOf 57 = .ok (.aload_n 2, 1) := by decide +kernel
theorem d_X_refusalOf_58 : decode b_X_refusalOf 58 = .ok (.invokevirtual 240, 3) := by decide +kernel
theorem d_X_refusalOf_61 : decode b_X_refusalOf 61 = .ok (.ifCond .eq 9, 3) := by decide +kernel
theorem d_X_refusalOf_64 : decode b_X_refusalOf 64 = .ok (.ldc2_w 242, 3) := by decide +kernel
theorem d_X_refusalOf_67 : decode b_X_refusalOf 67 = .ok (.goto 4, 3) := by decide +kernel
theorem d_X_refusalOf_70 : decode b_X_refusalOf 70 = .ok (.lconst 0, 1) := by decide +kernel
theorem d_X_refusalOf_71 : decode b_X_refusalOf 71 = .ok (.lreturn, 1) := by decide +kernel
theorem d_X_tell_0 : decode b_X_tell 0 = .ok (.aload_n 0, 1) := by decide +kernel
theorem d_X_tell_1 : decode b_X_tell 1 = .ok (.getfield 35, 3) := by decide +kernel
theorem d_X_tell_4 : decode b_X_tell 4 = .ok (.iload_n 1, 1) := by decide +kernel
theorem d_X_tell_5 : decode b_X_tell 5 = .ok (.iload_n 2, 1) := by decide +kernel
theorem d_X_tell_6 : decode b_X_tell 6 = .ok (.iload_n 3, 1) := by decide +kernel
theorem d_X_tell_7 : decode b_X_tell 7 = .ok (.lload 4, 2) := by decide +kernel
theorem d_X_tell_9 : decode b_X_tell 9 = .ok (.invokevirtual 244, 3) := by decide +kernel
theorem d_X_tell_12 : decode b_X_tell 12 = .ok (.lload 4, 2) := by decide +kernel
theorem d_X_tell_14 : decode b_X_tell 14 = .ok (.lreturn, 1) := by decide +kernel
theorem d_X_leastCallFor_0 : decode b_X_leastCallFor 0 = .ok (.iconst 0, 1) := by decide +kernel
theorem d_X_leastCallFor_1 : decode b_X_leastCallFor 1 = .ok (.istore_n 2, 1) := by decide +kernel
theorem d_X_leastCallFor_2 : decode b_X_leastCallFor 2 = .ok (.iload_n 2, 1) := by decide +kernel
theorem d_X_leastCallFor_3 : decode b_X_leastCallFor 3 = .ok (.bipush 12, 2) := by decide +kernel
theorem d_X_leastCallFor_5 : decode b_X_leastCallFor 5 = .ok (.if_icmp .ge 33, 3) := by decide +kernel
theorem d_X_leastCallFor_8 : decode b_X_leastCallFor 8 = .ok (.aload_n 0, 1) := by decide +kernel
theorem d_X_leastCallFor_9 : decode b_X_leastCallFor 9 = .ok (.getfield 28, 3) := by decide +kernel
theorem d_X_leastCallFor_12 : decode b_X_leastCallFor 12 = .ok (.iload_n 2, 1) := by decide +kernel
theorem d_X_leastCallFor_13 : decode b_X_leastCallFor 13 = .ok (.aaload, 1) := by decide +kernel
theorem d_X_leastCallFor_14 : decode b_X_leastCallFor 14 = .ok (.ifnull 18, 3) := by decide +kernel
theorem d_X_leastCallFor_17 : decode b_X_leastCallFor 17 = .ok (.aload_n 0, 1) := by decide +kernel
theorem d_X_leastCallFor_18 : decode b_X_leastCallFor 18 = .ok (.getfield 28, 3) := by decide +kernel
theorem d_X_leastCallFor_21 : decode b_X_leastCallFor 21 = .ok (.iload_n 2, 1) := by decide +kernel
theorem d_X_leastCallFor_22 : decode b_X_leastCallFor 22 = .ok (.aaload, 1) := by decide +kernel
theorem d_X_leastCallFor_23 : decode b_X_leastCallFor 23 = .ok (.getfield 128, 3) := by decide +kernel
theorem d_X_leastCallFor_26 : decode b_X_leastCallFor 26 = .ok (.iload_n 1, 1) := by decide +kernel
theorem d_X_leastCallFor_27 : decode b_X_leastCallFor 27 = .ok (.if_icmp .ne 5, 3) := by decide +kernel
theorem d_X_leastCallFor_30 : decode b_X_leastCallFor 30 = .ok (.iload_n 2, 1) := by decide +kernel
theorem d_X_leastCallFor_31 : decode b_X_leastCallFor 31 = .ok (.ireturn, 1) := by decide +kernel
theorem d_X_leastCallFor_32 : decode b_X_leastCallFor 32 = .ok (.iinc 2 1, 3) := by decide +kernel
theorem d_X_leastCallFor_35 : decode b_X_leastCallFor 35 = .ok (.goto (-33), 3) := by decide +kernel
theorem d_X_leastCallFor_38 : decode b_X_leastCallFor 38 = .ok (.iconst (-1), 1) := by decide +kernel
theorem d_X_leastCallFor_39 : decode b_X_leastCallFor 39 = .ok (.ireturn, 1) := by decide +kernel
theorem d_X_callInTurn_0 : decode b_X_callInTurn 0 = .ok (.aload_n 0, 1) := by decide +kernel
theorem d_X_callInTurn_1 : decode b_X_callInTurn 1 = .ok (.ifnull 11, 3) := by decide +kernel
theorem d_X_callInTurn_4 : decode b_X_callInTurn 4 = .ok (.aload_n 0, 1) := by decide +kernel
theorem d_X_callInTurn_5 : decode b_X_callInTurn 5 = .ok (.getfield 72, 3) := by decide +kernel
theorem d_X_callInTurn_8 : decode b_X_callInTurn 8 = .ok (.iload_n 1, 1) := by decide +kernel
theorem d_X_callInTurn_9 : decode b_X_callInTurn 9 = .ok (.if_icmp .eq 5, 3) := by decide +kernel
theorem d_X_callInTurn_12 : decode b_X_callInTurn 12 = .ok (.iconst (-1), 1) := by decide +kernel
theorem d_X_callInTurn_13 : decode b_X_callInTurn 13 = .ok (.ireturn, 1) := by decide +kernel
theorem d_X_callInTurn_14 : decode b_X_callInTurn 14 = .ok (.aload_n 0, 1) := by decide +kernel
theorem d_X_callInTurn_15 : decode b_X_callInTurn 15 = .ok (.getfield 57, 3) := by decide +kernel
theorem d_X_callInTurn_18 : decode b_X_callInTurn 18 = .ok (.iconst 4, 1) := by decide +kernel
theorem d_X_callInTurn_19 : decode b_X_callInTurn 19 = .ok (.if_icmp .ne 5, 3) := by decide +kernel
theorem d_X_callInTurn_22 : decode b_X_callInTurn 22 = .ok (.iload_n 2, 1) := by decide +kernel
theorem d_X_callInTurn_23 : decode b_X_callInTurn 23 = .ok (.ireturn, 1) := by decide +kernel
theorem d_X_callInTurn_24 : decode b_X_callInTurn 24 = .ok (.aload_n 0, 1) := by decide +kernel
theorem d_X_callInTurn_25 : decode b_X_callInTurn 25 = .ok (.getfield 57, 3) := by decide +kernel
theorem d_X_callInTurn_28 : decode b_X_callInTurn 28 = .ok (.iconst 5, 1) := by decide +kernel
theorem d_X_callInTurn_29 : decode b_X_callInTurn 29 = .ok (.if_icmp .ne 7, 3) := by decide +kernel
theorem d_X_callInTurn_32 : decode b_X_callInTurn 32 = .ok (.iload_n 3, 1) := by decide +kernel
theorem d_X_callInTurn_33 : decode b_X_callInTurn 33 = .ok (.goto 4, 3) := by decide +kernel
theorem d_X_callInTurn_36 : decode b_X_callInTurn 36 = .ok (.iconst (-1), 1) := by decide +kernel
theorem d_X_callInTurn_37 : decode b_X_callInTurn 37 = .ok (.ireturn, 1) := by decide +kernel
theorem d_X_goes_0 : decode b_X_goes 0 = .ok (.aload_n 0, 1) := by decide +kernel
theorem d_X_goes_1 : decode b_X_goes 1 = .ok (.iload_n 1, 1) := by decide +kernel
theorem d_X_goes_2 : decode b_X_goes 2 = .ok (.invokevirtual 111, 3) := by decide +kernel
theorem d_X_goes_5 : decode b_X_goes 5 = .ok (.astore 5, 2) := by decide +kernel
theorem d_X_goes_7 : decode b_X_goes 7 = .ok (.aload 5, 2) := by decide +kernel
theorem d_X_goes_9 : decode b_X_goes 9 = .ok (.ifnonnull 5, 3) := by decide +kernel
theorem d_X_goes_12 : decode b_X_goes 12 = .ok (.iconst 0, 1) := by decide +kernel
theorem d_X_goes_13 : decode b_X_goes 13 = .ok (.ireturn, 1) := by decide +kernel
theorem d_X_goes_14 : decode b_X_goes 14 = .ok (.aload 5, 2) := by decide +kernel
theorem d_X_goes_16 : decode b_X_goes 16 = .ok (.invokevirtual 156, 3) := by decide +kernel
theorem d_X_goes_19 : decode b_X_goes 19 = .ok (.istore 6, 2) := by decide +kernel
theorem d_X_goes_21 : decode b_X_goes 21 = .ok (.aload_n 0, 1) := by decide +kernel
theorem d_X_goes_22 : decode b_X_goes 22 = .ok (.iload 6, 2) := by decide +kernel
theorem d_X_goes_24 : decode b_X_goes 24 = .ok (.iload_n 2, 1) := by decide +kernel
theorem d_X_goes_25 : decode b_X_goes 25 = .ok (.iload_n 1, 1) := by decide +kernel
theorem d_X_goes_26 : decode b_X_goes 26 = .ok (.iload 6, 2) := by decide +kernel
theorem d_X_goes_28 : decode b_X_goes 28 = .ok (.ifCond .ne 12, 3) := by decide +kernel
theorem d_X_goes_31 : decode b_X_goes 31 = .ok (.aload 5, 2) := by decide +kernel
theorem d_X_goes_33 : decode b_X_goes 33 = .ok (.lload_n 3, 1) := by decide +kernel
theorem d_X_goes_34 : decode b_X_goes 34 = .ok (.invokevirtual 162, 3) := by decide +kernel
theorem d_X_goes_37 : decode b_X_goes 37 = .ok (.goto 4, 3) := by decide +kernel
theorem d_X_goes_40 : decode b_X_goes 40 = .ok (.lconst 0, 1) := by decide +kernel
theorem d_X_goes_41 : decode b_X_goes 41 = .ok (.invokevirtual 131, 3) := by decide +kernel
theorem d_X_goes_44 : decode b_X_goes 44 = .ok (.pop2, 1) := by decide +kernel
theorem d_X_goes_45 : decode b_X_goes 45 = .ok (.iload 6, 2) := by decide +kernel
theorem d_X_goes_47 : decode b_X_goes 47 = .ok (.ifCond .ne 7, 3) := by decide +kernel
theorem d_X_goes_50 : decode b_X_goes 50 = .ok (.iconst 1, 1) := by decide +kernel
theorem d_X_goes_51 : decode b_X_goes 51 = .ok (.goto 4, 3) := by decide +kernel
theorem d_X_goes_54 : decode b_X_goes 54 = .ok (.iconst 0, 1) := by decide +kernel
theorem d_X_goes_55 : decode b_X_goes 55 = .ok (.ireturn, 1) := by decide +kernel
theorem d_X_letWaitingGo_0 : decode b_X_letWaitingGo 0 = .ok (.iconst 0, 1) := by decide +kernel
theorem d_X_letWaitingGo_1 : decode b_X_letWaitingGo 1 = .ok (.istore_n 2, 1) := by decide +kernel
theorem d_X_letWaitingGo_2 : decode b_X_letWaitingGo 2 = .ok (.iload_n 2, 1) := by decide +kernel
theorem d_X_letWaitingGo_3 : decode b_X_letWaitingGo 3 = .ok (.aload_n 1, 1) := by decide +kernel
theorem d_X_letWaitingGo_4 : decode b_X_letWaitingGo 4 = .ok (.getfield 192, 3) := by decide +kernel
theorem d_X_letWaitingGo_7 : decode b_X_letWaitingGo 7 = .ok (.if_icmp .ge 38, 3) := by decide +kernel
theorem d_X_letWaitingGo_10 : decode b_X_letWaitingGo 10 = .ok (.iload_n 2, 1) := by decide +kernel
theorem d_X_letWaitingGo_11 : decode b_X_letWaitingGo 11 = .ok (.bipush 6, 2) := by decide +kernel
theorem d_X_letWaitingGo_13 : decode b_X_letWaitingGo 13 = .ok (.if_icmp .ge 32, 3) := by decide +kernel
theorem d_X_letWaitingGo_16 : decode b_X_letWaitingGo 16 = .ok (.aload_n 0, 1) := by decide +kernel
theorem d_X_letWaitingGo_17 : decode b_X_letWaitingGo 17 = .ok (.aload_n 1, 1) := by decide +kernel
theorem d_X_letWaitingGo_18 : decode b_X_letWaitingGo 18 = .ok (.getfield 248, 3) := by decide +kernel
theorem d_X_letWaitingGo_21 : decode b_X_letWaitingGo 21 = .ok (.iload_n 2, 1) := by decide +kernel
theorem d_X_letWaitingGo_22 : decode b_X_letWaitingGo 22 = .ok (.iaload, 1) := by decide +kernel
theorem d_X_letWaitingGo_23 : decode b_X_letWaitingGo 23 = .ok (.aload_n 1, 1) := by decide +kernel
theorem d_X_letWaitingGo_24 : decode b_X_letWaitingGo 24 = .ok (.getfield 249, 3) := by decide +kernel
theorem d_X_letWaitingGo_27 : decode b_X_letWaitingGo 27 = .ok (.iload_n 2, 1) := by decide +kernel
theorem d_X_letWaitingGo_28 : decode b_X_letWaitingGo 28 = .ok (.iaload, 1) := by decide +kernel
theorem d_X_letWaitingGo_29 : decode b_X_letWaitingGo 29 = .ok (.aload_n 1, 1) := by decide +kernel
theorem d_X_letWaitingGo_30 : decode b_X_letWaitingGo 30 = .ok (.getfield 250, 3) := by decide +kernel
theorem d_X_letWaitingGo_33 : decode b_X_letWaitingGo 33 = .ok (.iload_n 2, 1) := by decide +kernel
theorem d_X_letWaitingGo_34 : decode b_X_letWaitingGo 34 = .ok (.laload, 1) := by decide +kernel
theorem d_X_letWaitingGo_35 : decode b_X_letWaitingGo 35 = .ok (.invokevirtual 181, 3) := by decide +kernel
theorem d_X_letWaitingGo_38 : decode b_X_letWaitingGo 38 = .ok (.pop, 1) := by decide +kernel
theorem d_X_letWaitingGo_39 : decode b_X_letWaitingGo 39 = .ok (.iinc 2 1, 3) := by decide +kernel
theorem d_X_letWaitingGo_42 : decode b_X_letWaitingGo 42 = .ok (.goto (-40), 3) := by decide +kernel
theorem d_X_letWaitingGo_45 : decode b_X_letWaitingGo 45 = .ok (.aload_n 1, 1) := by decide +kernel
theorem d_X_letWaitingGo_46 : decode b_X_letWaitingGo 46 = .ok (.iconst 0, 1) := by decide +kernel
theorem d_X_letWaitingGo_47 : decode b_X_letWaitingGo 47 = .ok (.putfield 192, 3) := by decide +kernel
theorem d_X_letWaitingGo_50 : decode b_X_letWaitingGo 50 = .ok (.return_, 1) := by decide +kernel
