theorem dX0_init_0 : decode cX0_init 0 = .ok (.aload_n 0, 1) := by decide +kernel
theorem dX0_init_1 : decode cX0_init 1 = .ok (.invokespecial 3, 3) := by decide +kernel
theorem dX0_init_4 : decode cX0_init 4 = .ok (.aload_n 0, 1) := by decide +kernel
theorem dX0_init_5 : decode cX0_init 5 = .ok (.sipush 192, 3) := by decide +kernel
theorem dX0_init_8 : decode cX0_init 8 = .ok (.newarray .int, 2) := by decide +kernel
theorem dX0_init_10 : decode cX0_init 10 = .ok (.putfield 9, 3) := by decide +kernel
theorem dX0_init_13 : decode cX0_init 13 = .ok (.aload_n 0, 1) := by decide +kernel
theorem dX0_init_14 : decode cX0_init 14 = .ok (.bipush 48, 2) := by decide +kernel
theorem dX0_init_16 : decode cX0_init 16 = .ok (.newarray .int, 2) := by decide +kernel
theorem dX0_init_18 : decode cX0_init 18 = .ok (.putfield 13, 3) := by decide +kernel
theorem dX0_init_21 : decode cX0_init 21 = .ok (.aload_n 0, 1) := by decide +kernel
theorem dX0_init_22 : decode cX0_init 22 = .ok (.bipush 96, 2) := by decide +kernel
theorem dX0_init_24 : decode cX0_init 24 = .ok (.newarray .int, 2) := by decide +kernel
theorem dX0_init_26 : decode cX0_init 26 = .ok (.putfield 16, 3) := by decide +kernel
theorem dX0_init_29 : decode cX0_init 29 = .ok (.aload_n 0, 1) := by decide +kernel
theorem dX0_init_30 : decode cX0_init 30 = .ok (.iconst 4, 1) := by decide +kernel
theorem dX0_init_31 : decode cX0_init 31 = .ok (.newarray .int, 2) := by decide +kernel
theorem dX0_init_33 : decode cX0_init 33 = .ok (.putfield 19, 3) := by decide +kernel
theorem dX0_init_36 : decode cX0_init 36 = .ok (.aload_n 0, 1) := by decide +kernel
theorem dX0_init_37 : decode cX0_init 37 = .ok (.bipush 24, 2) := by decide +kernel
theorem dX0_init_39 : decode cX0_init 39 = .ok (.newarray .int, 2) := by decide +kernel
theorem dX0_init_41 : decode cX0_init 41 = .ok (.putfield 22, 3) := by decide +kernel
theorem dX0_init_44 : decode cX0_init 44 = .ok (.aload_n 0, 1) := by decide +kernel
theorem dX0_init_45 : decode cX0_init 45 = .ok (.bipush 48, 2) := by decide +kernel
theorem dX0_init_47 : decode cX0_init 47 = .ok (.newarray .int, 2) := by decide +kernel
theorem dX0_init_49 : decode cX0_init 49 = .ok (.putfield 25, 3) := by decide +kernel
theorem dX0_init_52 : decode cX0_init 52 = .ok (.aload_n 0, 1) := by decide +kernel
theorem dX0_init_53 : decode cX0_init 53 = .ok (.bipush (-9), 2) := by decide +kernel
theorem dX0_init_55 : decode cX0_init 55 = .ok (.putfield 28, 3) := by decide +kernel
theorem dX0_init_58 : decode cX0_init 58 = .ok (.iconst 0, 1) := by decide +kernel
theorem dX0_init_59 : decode cX0_init 59 = .ok (.istore_n 1, 1) := by decide +kernel
theorem dX0_init_60 : decode cX0_init 60 = .ok (.iload_n 1, 1) := by decide +kernel
theorem dX0_init_61 : decode cX0_init 61 = .ok (.aload_n 0, 1) := by decide +kernel
theorem dX0_init_62 : decode cX0_init 62 = .ok (.getfield 16, 3) := by decide +kernel
theorem dX0_init_65 : decode cX0_init 65 = .ok (.arraylength, 1) := by decide +kernel
theorem dX0_init_66 : decode cX0_init 66 = .ok (.if_icmp .ge 17, 3) := by decide +kernel
theorem dX0_init_69 : decode cX0_init 69 = .ok (.aload_n 0, 1) := by decide +kernel
theorem dX0_init_70 : decode cX0_init 70 = .ok (.getfield 16, 3) := by decide +kernel
theorem dX0_init_73 : decode cX0_init 73 = .ok (.iload_n 1, 1) := by decide +kernel
theorem dX0_init_74 : decode cX0_init 74 = .ok (.bipush (-9), 2) := by decide +kernel
theorem dX0_init_76 : decode cX0_init 76 = .ok (.iastore, 1) := by decide +kernel
theorem dX0_init_77 : decode cX0_init 77 = .ok (.iinc 1 1, 3) := by decide +kernel
theorem dX0_init_80 : decode cX0_init 80 = .ok (.goto (-20), 3) := by decide +kernel
theorem dX0_init_83 : decode cX0_init 83 = .ok (.return_, 1) := by decide +kernel
theorem dX0_read_0 : decode cX0_read 0 = .ok (.iload_n 1, 1) := by decide +kernel
theorem dX0_read_1 : decode cX0_read 1 = .ok (.invokestatic 32, 3) := by decide +kernel
theorem dX0_read_4 : decode cX0_read 4 = .ok (.ifCond .ne 5, 3) := by decide +kernel
theorem dX0_read_7 : decode cX0_read 7 = .ok (.iconst (-1), 1) := by decide +kernel
theorem dX0_read_8 : decode cX0_read 8 = .ok (.ireturn, 1) := by decide +kernel
theorem dX0_read_9 : decode cX0_read 9 = .ok (.iload_n 2, 1) := by decide +kernel
theorem dX0_read_10 : decode cX0_read 10 = .ok (.ifCond .lt 12, 3) := by decide +kernel
theorem dX0_read_13 : decode cX0_read 13 = .ok (.iload_n 2, 1) := by decide +kernel
theorem dX0_read_14 : decode cX0_read 14 = .ok (.aload_n 0, 1) := by decide +kernel
theorem dX0_read_15 : decode cX0_read 15 = .ok (.iload_n 1, 1) := by decide +kernel
theorem dX0_read_16 : decode cX0_read 16 = .ok (.invokevirtual 36, 3) := by decide +kernel
theorem dX0_read_19 : decode cX0_read 19 = .ok (.if_icmp .lt 6, 3) := by decide +kernel
theorem dX0_read_22 : decode cX0_read 22 = .ok (.bipush (-2), 2) := by decide +kernel
theorem dX0_read_24 : decode cX0_read 24 = .ok (.ireturn, 1) := by decide +kernel
theorem dX0_read_25 : decode cX0_read 25 = .ok (.aload_n 0, 1) := by decide +kernel
theorem dX0_read_26 : decode cX0_read 26 = .ok (.aload_n 0, 1) := by decide +kernel
theorem dX0_read_27 : decode cX0_read 27 = .ok (.iload_n 1, 1) := by decide +kernel
theorem dX0_read_28 : decode cX0_read 28 = .ok (.iload_n 2, 1) := by decide +kernel
theorem dX0_read_29 : decode cX0_read 29 = .ok (.iconst 4, 1) := by decide +kernel
theorem dX0_read_30 : decode cX0_read 30 = .ok (.idiv, 1) := by decide +kernel
theorem dX0_read_31 : decode cX0_read 31 = .ok (.invokevirtual 40, 3) := by decide +kernel
theorem dX0_read_34 : decode cX0_read 34 = .ok (.iload_n 2, 1) := by decide +kernel
theorem dX0_read_35 : decode cX0_read 35 = .ok (.iconst 4, 1) := by decide +kernel
theorem dX0_read_36 : decode cX0_read 36 = .ok (.irem, 1) := by decide +kernel
theorem dX0_read_37 : decode cX0_read 37 = .ok (.invokevirtual 44, 3) := by decide +kernel
theorem dX0_read_40 : decode cX0_read 40 = .ok (.ireturn, 1) := by decide +kernel
theorem dX0_write_0 : decode cX0_write 0 = .ok (.iload_n 1, 1) := by decide +kernel
theorem dX0_write_1 : decode cX0_write 1 = .ok (.invokestatic 32, 3) := by decide +kernel
theorem dX0_write_4 : decode cX0_write 4 = .ok (.ifCond .ne 5, 3) := by decide +kernel
theorem dX0_write_7 : decode cX0_write 7 = .ok (.iconst (-1), 1) := by decide +kernel
theorem dX0_write_8 : decode cX0_write 8 = .ok (.ireturn, 1) := by decide +kernel
theorem dX0_write_9 : decode cX0_write 9 = .ok (.iload_n 2, 1) := by decide +kernel
theorem dX0_write_10 : decode cX0_write 10 = .ok (.iload_n 3, 1) := by decide +kernel
theorem dX0_write_11 : decode cX0_write 11 = .ok (.invokestatic 47, 3) := by decide +kernel
theorem dX0_write_14 : decode cX0_write 14 = .ok (.ifCond .eq 16, 3) := by decide +kernel
theorem dX0_write_17 : decode cX0_write 17 = .ok (.iload 4, 2) := by decide +kernel
theorem dX0_write_19 : decode cX0_write 19 = .ok (.ifCond .lt 11, 3) := by decide +kernel
theorem dX0_write_22 : decode cX0_write 22 = .ok (.iload 4, 2) := by decide +kernel
theorem dX0_write_24 : decode cX0_write 24 = .ok (.sipush 255, 3) := by decide +kernel
theorem dX0_write_27 : decode cX0_write 27 = .ok (.if_icmp .le 6, 3) := by decide +kernel
theorem dX0_write_30 : decode cX0_write 30 = .ok (.bipush (-2), 2) := by decide +kernel
theorem dX0_write_32 : decode cX0_write 32 = .ok (.ireturn, 1) := by decide +kernel
theorem dX0_write_33 : decode cX0_write 33 = .ok (.aload_n 0, 1) := by decide +kernel
theorem dX0_write_34 : decode cX0_write 34 = .ok (.getfield 51, 3) := by decide +kernel
theorem dX0_write_37 : decode cX0_write 37 = .ok (.ifCond .eq 6, 3) := by decide +kernel
theorem dX0_write_40 : decode cX0_write 40 = .ok (.bipush (-3), 2) := by decide +kernel
theorem dX0_write_42 : decode cX0_write 42 = .ok (.ireturn, 1) := by decide +kernel
theorem dX0_write_43 : decode cX0_write 43 = .ok (.aload_n 0, 1) := by decide +kernel
theorem dX0_write_44 : decode cX0_write 44 = .ok (.iload_n 1, 1) := by decide +kernel
theorem dX0_write_45 : decode cX0_write 45 = .ok (.iload_n 2, 1) := by decide +kernel
theorem dX0_write_46 : decode cX0_write 46 = .ok (.iconst 4, 1) := by decide +kernel
theorem dX0_write_47 : decode cX0_write 47 = .ok (.idiv, 1) := by decide +kernel
theorem dX0_write_48 : decode cX0_write 48 = .ok (.iload_n 2, 1) := by decide +kernel
theorem dX0_write_49 : decode cX0_write 49 = .ok (.iload_n 3, 1) := by decide +kernel
theorem dX0_write_50 : decode cX0_write 50 = .ok (.iadd, 1) := by decide +kernel
theorem dX0_write_51 : decode cX0_write 51 = .ok (.iconst 1, 1) := by decide +kernel
theorem dX0_write_52 : decode cX0_write 52 = .ok (.isub, 1) := by decide +kernel
theorem dX0_write_53 : decode cX0_write 53 = .ok (.iconst 4, 1) := by decide +kernel
theorem dX0_write_54 : decode cX0_write 54 = .ok (.idiv, 1) := by decide +kernel
theorem dX0_write_55 : decode cX0_write 55 = .ok (.iconst 1, 1) := by decide +kernel
theorem dX0_write_56 : decode cX0_write 56 = .ok (.invokevirtual 55, 3) := by decide +kernel
theorem dX0_write_59 : decode cX0_write 59 = .ok (.aload_n 0, 1) := by decide +kernel
theorem dX0_write_60 : decode cX0_write 60 = .ok (.invokevirtual 59, 3) := by decide +kernel
theorem dX0_write_63 : decode cX0_write 63 = .ok (.ifCond .eq 6, 3) := by decide +kernel
theorem dX0_write_66 : decode cX0_write 66 = .ok (.bipush (-6), 2) := by decide +kernel
theorem dX0_write_68 : decode cX0_write 68 = .ok (.ireturn, 1) := by decide +kernel
theorem dX0_write_69 : decode cX0_write 69 = .ok (.aload_n 0, 1) := by decide +kernel
theorem dX0_write_70 : decode cX0_write 70 = .ok (.iload_n 1, 1) := by decide +kernel
theorem dX0_write_71 : decode cX0_write 71 = .ok (.invokevirtual 63, 3) := by decide +kernel
theorem dX0_write_74 : decode cX0_write 74 = .ok (.aload_n 0, 1) := by decide +kernel
theorem dX0_write_75 : decode cX0_write 75 = .ok (.iload_n 1, 1) := by decide +kernel
theorem dX0_write_76 : decode cX0_write 76 = .ok (.iload_n 2, 1) := by decide +kernel
theorem dX0_write_77 : decode cX0_write 77 = .ok (.iload_n 2, 1) := by decide +kernel
theorem dX0_write_78 : decode cX0_write 78 = .ok (.iload_n 3, 1) := by decide +kernel
theorem dX0_write_79 : decode cX0_write 79 = .ok (.iadd, 1) := by decide +kernel
theorem dX0_write_80 : decode cX0_write 80 = .ok (.iload 4, 2) := by decide +kernel
theorem dX0_write_82 : decode cX0_write 82 = .ok (.invokevirtual 67, 3) := by decide +kernel
theorem dX0_write_85 : decode cX0_write 85 = .ok (.aload_n 0, 1) := by decide +kernel
theorem dX0_write_86 : decode cX0_write 86 = .ok (.iload_n 1, 1) := by decide +kernel
theorem dX0_write_87 : decode cX0_write 87 = .ok (.iload_n 2, 1) := by decide +kernel
theorem dX0_write_88 : decode cX0_write 88 = .ok (.iload_n 3, 1) := by decide +kernel
theorem dX0_write_89 : decode cX0_write 89 = .ok (.iadd, 1) := by decide +kernel
theorem dX0_write_90 : decode cX0_write 90 = .ok (.invokevirtual 71, 3) := by decide +kernel
theorem dX0_write_93 : decode cX0_write 93 = .ok (.aload_n 0, 1) := by decide +kernel
theorem dX0_write_94 : decode cX0_write 94 = .ok (.iload_n 1, 1) := by decide +kernel
theorem dX0_write_95 : decode cX0_write 95 = .ok (.invokevirtual 36, 3) := by decide +kernel
theorem dX0_write_98 : decode cX0_write 98 = .ok (.ireturn, 1) := by decide +kernel
theorem dX0_cut_0 : decode cX0_cut 0 = .ok (.iload_n 1, 1) := by decide +kernel
theorem dX0_cut_1 : decode cX0_cut 1 = .ok (.invokestatic 32, 3) := by decide +kernel
theorem dX0_cut_4 : decode cX0_cut 4 = .ok (.ifCond .ne 5, 3) := by decide +kernel
theorem dX0_cut_7 : decode cX0_cut 7 = .ok (.iconst (-1), 1) := by decide +kernel
theorem dX0_cut_8 : decode cX0_cut 8 = .ok (.ireturn, 1) := by decide +kernel
theorem dX0_cut_9 : decode cX0_cut 9 = .ok (.iload_n 2, 1) := by decide +kernel
theorem dX0_cut_10 : decode cX0_cut 10 = .ok (.ifCond .lt 9, 3) := by decide +kernel
theorem dX0_cut_13 : decode cX0_cut 13 = .ok (.iload_n 2, 1) := by decide +kernel
theorem dX0_cut_14 : decode cX0_cut 14 = .ok (.bipush 96, 2) := by decide +kernel
theorem dX0_cut_16 : decode cX0_cut 16 = .ok (.if_icmp .le 6, 3) := by decide +kernel
theorem dX0_cut_19 : decode cX0_cut 19 = .ok (.bipush (-2), 2) := by decide +kernel
theorem dX0_cut_21 : decode cX0_cut 21 = .ok (.ireturn, 1) := by decide +kernel
theorem dX0_cut_22 : decode cX0_cut 22 = .ok (.aload_n 0, 1) := by decide +kernel
theorem dX0_cut_23 : decode cX0_cut 23 = .ok (.getfield 51, 3) := by decide +kernel
theorem dX0_cut_26 : decode cX0_cut 26 = .ok (.ifCond .eq 6, 3) := by decide +kernel
theorem dX0_cut_29 : decode cX0_cut 29 = .ok (.bipush (-3), 2) := by decide +kernel
theorem dX0_cut_31 : decode cX0_cut 31 = .ok (.ireturn, 1) := by decide +kernel
theorem dX0_cut_32 : decode cX0_cut 32 = .ok (.aload_n 0, 1) := by decide +kernel
theorem dX0_cut_33 : decode cX0_cut 33 = .ok (.iload_n 1, 1) := by decide +kernel
theorem dX0_cut_34 : decode cX0_cut 34 = .ok (.invokevirtual 36, 3) := by decide +kernel
theorem dX0_cut_37 : decode cX0_cut 37 = .ok (.istore_n 3, 1) := by decide +kernel
theorem dX0_cut_38 : decode cX0_cut 38 = .ok (.aload_n 0, 1) := by decide +kernel
theorem dX0_cut_39 : decode cX0_cut 39 = .ok (.iload_n 1, 1) := by decide +kernel
theorem dX0_cut_40 : decode cX0_cut 40 = .ok (.iload_n 2, 1) := by decide +kernel
theorem dX0_cut_41 : decode cX0_cut 41 = .ok (.iload_n 3, 1) := by decide +kernel
theorem dX0_cut_42 : decode cX0_cut 42 = .ok (.invokevirtual 75, 3) := by decide +kernel
theorem dX0_cut_45 : decode cX0_cut 45 = .ok (.aload_n 0, 1) := by decide +kernel
theorem dX0_cut_46 : decode cX0_cut 46 = .ok (.invokevirtual 59, 3) := by decide +kernel
theorem dX0_cut_49 : decode cX0_cut 49 = .ok (.ifCond .eq 6, 3) := by decide +kernel
theorem dX0_cut_52 : decode cX0_cut 52 = .ok (.bipush (-6), 2) := by decide +kernel
theorem dX0_cut_54 : decode cX0_cut 54 = .ok (.ireturn, 1) := by decide +kernel
theorem dX0_cut_55 : decode cX0_cut 55 = .ok (.aload_n 0, 1) := by decide +kernel
theorem dX0_cut_56 : decode cX0_cut 56 = .ok (.iload_n 1, 1) := by decide +kernel
theorem dX0_cut_57 : decode cX0_cut 57 = .ok (.invokevirtual 63, 3) := by decide +kernel
theorem dX0_cut_60 : decode cX0_cut 60 = .ok (.aload_n 0, 1) := by decide +kernel
theorem dX0_cut_61 : decode cX0_cut 61 = .ok (.iload_n 1, 1) := by decide +kernel
theorem dX0_cut_62 : decode cX0_cut 62 = .ok (.iload_n 2, 1) := by decide +kernel
theorem dX0_cut_63 : decode cX0_cut 63 = .ok (.iload_n 3, 1) := by decide +kernel
theorem dX0_cut_64 : decode cX0_cut 64 = .ok (.invokevirtual 79, 3) := by decide +kernel
theorem dX0_cut_67 : decode cX0_cut 67 = .ok (.pop, 1) := by decide +kernel
theorem dX0_cut_68 : decode cX0_cut 68 = .ok (.aload_n 0, 1) := by decide +kernel
theorem dX0_cut_69 : decode cX0_cut 69 = .ok (.iload_n 1, 1) := by decide +kernel
theorem dX0_cut_70 : decode cX0_cut 70 = .ok (.iload_n 2, 1) := by decide +kernel
theorem dX0_cut_71 : decode cX0_cut 71 = .ok (.invokevirtual 83, 3) := by decide +kernel
theorem dX0_cut_74 : decode cX0_cut 74 = .ok (.iload_n 3, 1) := by decide +kernel
theorem dX0_cut_75 : decode cX0_cut 75 = .ok (.ireturn, 1) := by decide +kernel
theorem dX0_punch_0 : decode cX0_punch 0 = .ok (.iload_n 1, 1) := by decide +kernel
theorem dX0_punch_1 : decode cX0_punch 1 = .ok (.invokestatic 32, 3) := by decide +kernel
theorem dX0_punch_4 : decode cX0_punch 4 = .ok (.ifCond .ne 5, 3) := by decide +kernel
theorem dX0_punch_7 : decode cX0_punch 7 = .ok (.iconst (-1), 1) := by decide +kernel
theorem dX0_punch_8 : decode cX0_punch 8 = .ok (.ireturn, 1) := by decide +kernel
theorem dX0_punch_9 : decode cX0_punch 9 = .ok (.iload_n 2, 1) := by decide +kernel
theorem dX0_punch_10 : decode cX0_punch 10 = .ok (.iload_n 3, 1) := by decide +kernel
theorem dX0_punch_11 : decode cX0_punch 11 = .ok (.invokestatic 47, 3) := by decide +kernel
theorem dX0_punch_14 : decode cX0_punch 14 = .ok (.ifCond .ne 6, 3) := by decide +kernel
theorem dX0_punch_17 : decode cX0_punch 17 = .ok (.bipush (-2), 2) := by decide +kernel
theorem dX0_punch_19 : decode cX0_punch 19 = .ok (.ireturn, 1) := by decide +kernel
theorem dX0_punch_20 : decode cX0_punch 20 = .ok (.aload_n 0, 1) := by decide +kernel
theorem dX0_punch_21 : decode cX0_punch 21 = .ok (.getfield 51, 3) := by decide +kernel
theorem dX0_punch_24 : decode cX0_punch 24 = .ok (.ifCond .eq 6, 3) := by decide +kernel
theorem dX0_punch_27 : decode cX0_punch 27 = .ok (.bipush (-3), 2) := by decide +kernel
theorem dX0_punch_29 : decode cX0_punch 29 = .ok (.ireturn, 1) := by decide +kernel
theorem dX0_punch_30 : decode cX0_punch 30 = .ok (.iload_n 2, 1) := by decide +kernel
theorem dX0_punch_31 : decode cX0_punch 31 = .ok (.iload_n 3, 1) := by decide +kernel
theorem dX0_punch_32 : decode cX0_punch 32 = .ok (.iadd, 1) := by decide +kernel
theorem dX0_punch_33 : decode cX0_punch 33 = .ok (.aload_n 0, 1) := by decide +kernel
theorem dX0_punch_34 : decode cX0_punch 34 = .ok (.iload_n 1, 1) := by decide +kernel
theorem dX0_punch_35 : decode cX0_punch 35 = .ok (.invokevirtual 36, 3) := by decide +kernel
theorem dX0_punch_38 : decode cX0_punch 38 = .ok (.invokestatic 86, 3) := by decide +kernel
theorem dX0_punch_41 : decode cX0_punch 41 = .ok (.istore 4, 2) := by decide +kernel
theorem dX0_punch_43 : decode cX0_punch 43 = .ok (.aload_n 0, 1) := by decide +kernel
theorem dX0_punch_44 : decode cX0_punch 44 = .ok (.iload_n 1, 1) := by decide +kernel
theorem dX0_punch_45 : decode cX0_punch 45 = .ok (.iload_n 2, 1) := by decide +kernel
theorem dX0_punch_46 : decode cX0_punch 46 = .ok (.iload 4, 2) := by decide +kernel
theorem dX0_punch_48 : decode cX0_punch 48 = .ok (.invokevirtual 75, 3) := by decide +kernel
theorem dX0_punch_51 : decode cX0_punch 51 = .ok (.aload_n 0, 1) := by decide +kernel
theorem dX0_punch_52 : decode cX0_punch 52 = .ok (.invokevirtual 59, 3) := by decide +kernel
theorem dX0_punch_55 : decode cX0_punch 55 = .ok (.ifCond .eq 6, 3) := by decide +kernel
theorem dX0_punch_58 : decode cX0_punch 58 = .ok (.bipush (-6), 2) := by decide +kernel
theorem dX0_punch_60 : decode cX0_punch 60 = .ok (.ireturn, 1) := by decide +kernel
theorem dX0_punch_61 : decode cX0_punch 61 = .ok (.aload_n 0, 1) := by decide +kernel
theorem dX0_punch_62 : decode cX0_punch 62 = .ok (.iload_n 1, 1) := by decide +kernel
theorem dX0_punch_63 : decode cX0_punch 63 = .ok (.invokevirtual 63, 3) := by decide +kernel
theorem dX0_punch_66 : decode cX0_punch 66 = .ok (.aload_n 0, 1) := by decide +kernel
theorem dX0_punch_67 : decode cX0_punch 67 = .ok (.iload_n 1, 1) := by decide +kernel
theorem dX0_punch_68 : decode cX0_punch 68 = .ok (.iload_n 2, 1) := by decide +kernel
theorem dX0_punch_69 : decode cX0_punch 69 = .ok (.iload 4, 2) := by decide +kernel
theorem dX0_punch_71 : decode cX0_punch 71 = .ok (.invokevirtual 79, 3) := by decide +kernel
theorem dX0_punch_74 : decode cX0_punch 74 = .ok (.ireturn, 1) := by decide +kernel
theorem dX0_collapse_0 : decode cX0_collapse 0 = .ok (.iload_n 1, 1) := by decide +kernel
theorem dX0_collapse_1 : decode cX0_collapse 1 = .ok (.invokestatic 32, 3) := by decide +kernel
theorem dX0_collapse_4 : decode cX0_collapse 4 = .ok (.ifCond .ne 5, 3) := by decide +kernel
theorem dX0_collapse_7 : decode cX0_collapse 7 = .ok (.iconst (-1), 1) := by decide +kernel
theorem dX0_collapse_8 : decode cX0_collapse 8 = .ok (.ireturn, 1) := by decide +kernel
theorem dX0_collapse_9 : decode cX0_collapse 9 = .ok (.iload_n 2, 1) := by decide +kernel
theorem dX0_collapse_10 : decode cX0_collapse 10 = .ok (.iload_n 3, 1) := by decide +kernel
theorem dX0_collapse_11 : decode cX0_collapse 11 = .ok (.invokestatic 91, 3) := by decide +kernel
theorem dX0_collapse_14 : decode cX0_collapse 14 = .ok (.ifCond .ne 6, 3) := by decide +kernel
theorem dX0_collapse_17 : decode cX0_collapse 17 = .ok (.bipush (-2), 2) := by decide +kernel
theorem dX0_collapse_19 : decode cX0_collapse 19 = .ok (.ireturn, 1) := by decide +kernel
theorem dX0_collapse_20 : decode cX0_collapse 20 = .ok (.aload_n 0, 1) := by decide +kernel
theorem dX0_collapse_21 : decode cX0_collapse 21 = .ok (.getfield 51, 3) := by decide +kernel
theorem dX0_collapse_24 : decode cX0_collapse 24 = .ok (.ifCond .ne 16, 3) := by decide +kernel
theorem dX0_collapse_27 : decode cX0_collapse 27 = .ok (.iload_n 2, 1) := by decide +kernel
theorem dX0_collapse_28 : decode cX0_collapse 28 = .ok (.iload_n 3, 1) := by decide +kernel
theorem dX0_collapse_29 : decode cX0_collapse 29 = .ok (.iadd, 1) := by decide +kernel
theorem dX0_collapse_30 : decode cX0_collapse 30 = .ok (.iconst 4, 1) := by decide +kernel
theorem dX0_collapse_31 : decode cX0_collapse 31 = .ok (.imul, 1) := by decide +kernel
theorem dX0_collapse_32 : decode cX0_collapse 32 = .ok (.aload_n 0, 1) := by decide +kernel
theorem dX0_collapse_33 : decode cX0_collapse 33 = .ok (.iload_n 1, 1) := by decide +kernel
theorem dX0_collapse_34 : decode cX0_collapse 34 = .ok (.invokevirtual 36, 3) := by decide +kernel
theorem dX0_collapse_37 : decode cX0_collapse 37 = .ok (.if_icmp .lt 6, 3) := by decide +kernel
theorem dX0_collapse_40 : decode cX0_collapse 40 = .ok (.bipush (-3), 2) := by decide +kernel
theorem dX0_collapse_42 : decode cX0_collapse 42 = .ok (.ireturn, 1) := by decide +kernel
theorem dX0_collapse_43 : decode cX0_collapse 43 = .ok (.iload_n 2, 1) := by decide +kernel
theorem dX0_collapse_44 : decode cX0_collapse 44 = .ok (.istore 4, 2) := by decide +kernel
theorem dX0_collapse_46 : decode cX0_collapse 46 = .ok (.iload 4, 2) := by decide +kernel
theorem dX0_collapse_48 : decode cX0_collapse 48 = .ok (.bipush 24, 2) := by decide +kernel
theorem dX0_collapse_50 : decode cX0_collapse 50 = .ok (.if_icmp .ge 25, 3) := by decide +kernel
theorem dX0_collapse_53 : decode cX0_collapse 53 = .ok (.aload_n 0, 1) := by decide +kernel
theorem dX0_collapse_54 : decode cX0_collapse 54 = .ok (.iload_n 1, 1) := by decide +kernel
theorem dX0_collapse_55 : decode cX0_collapse 55 = .ok (.iload 4, 2) := by decide +kernel
theorem dX0_collapse_57 : decode cX0_collapse 57 = .ok (.aload_n 0, 1) := by decide +kernel
theorem dX0_collapse_58 : decode cX0_collapse 58 = .ok (.iload_n 1, 1) := by decide +kernel
theorem dX0_collapse_59 : decode cX0_collapse 59 = .ok (.iload 4, 2) := by decide +kernel
theorem dX0_collapse_61 : decode cX0_collapse 61 = .ok (.iload_n 3, 1) := by decide +kernel
theorem dX0_collapse_62 : decode cX0_collapse 62 = .ok (.iadd, 1) := by decide +kernel
theorem dX0_collapse_63 : decode cX0_collapse 63 = .ok (.invokevirtual 40, 3) := by decide +kernel
theorem dX0_collapse_66 : decode cX0_collapse 66 = .ok (.invokevirtual 94, 3) := by decide +kernel
theorem dX0_collapse_69 : decode cX0_collapse 69 = .ok (.iinc 4 1, 3) := by decide +kernel
theorem dX0_collapse_72 : decode cX0_collapse 72 = .ok (.goto (-26), 3) := by decide +kernel
theorem dX0_collapse_75 : decode cX0_collapse 75 = .ok (.aload_n 0, 1) := by decide +kernel
theorem dX0_collapse_76 : decode cX0_collapse 76 = .ok (.iload_n 1, 1) := by decide +kernel
theorem dX0_collapse_77 : decode cX0_collapse 77 = .ok (.aload_n 0, 1) := by decide +kernel
theorem dX0_collapse_78 : decode cX0_collapse 78 = .ok (.iload_n 1, 1) := by decide +kernel
theorem dX0_collapse_79 : decode cX0_collapse 79 = .ok (.invokevirtual 36, 3) := by decide +kernel
theorem dX0_collapse_82 : decode cX0_collapse 82 = .ok (.iload_n 3, 1) := by decide +kernel
theorem dX0_collapse_83 : decode cX0_collapse 83 = .ok (.iconst 4, 1) := by decide +kernel
theorem dX0_collapse_84 : decode cX0_collapse 84 = .ok (.imul, 1) := by decide +kernel
theorem dX0_collapse_85 : decode cX0_collapse 85 = .ok (.isub, 1) := by decide +kernel
theorem dX0_collapse_86 : decode cX0_collapse 86 = .ok (.invokevirtual 83, 3) := by decide +kernel
theorem dX0_collapse_89 : decode cX0_collapse 89 = .ok (.aload_n 0, 1) := by decide +kernel
theorem dX0_collapse_90 : decode cX0_collapse 90 = .ok (.iload_n 1, 1) := by decide +kernel
theorem dX0_collapse_91 : decode cX0_collapse 91 = .ok (.invokevirtual 36, 3) := by decide +kernel
theorem dX0_collapse_94 : decode cX0_collapse 94 = .ok (.ireturn, 1) := by decide +kernel
theorem dX0_insert_0 : decode cX0_insert 0 = .ok (.iload_n 1, 1) := by decide +kernel
theorem dX0_insert_1 : decode cX0_insert 1 = .ok (.invokestatic 32, 3) := by decide +kernel
theorem dX0_insert_4 : decode cX0_insert 4 = .ok (.ifCond .ne 5, 3) := by decide +kernel
theorem dX0_insert_7 : decode cX0_insert 7 = .ok (.iconst (-1), 1) := by decide +kernel
theorem dX0_insert_8 : decode cX0_insert 8 = .ok (.ireturn, 1) := by decide +kernel
theorem dX0_insert_9 : decode cX0_insert 9 = .ok (.iload_n 2, 1) := by decide +kernel
theorem dX0_insert_10 : decode cX0_insert 10 = .ok (.invokestatic 97, 3) := by decide +kernel
theorem dX0_insert_13 : decode cX0_insert 13 = .ok (.ifCond .eq 14, 3) := by decide +kernel
theorem dX0_insert_16 : decode cX0_insert 16 = .ok (.iload_n 3, 1) := by decide +kernel
theorem dX0_insert_17 : decode cX0_insert 17 = .ok (.iconst 1, 1) := by decide +kernel
theorem dX0_insert_18 : decode cX0_insert 18 = .ok (.if_icmp .lt 9, 3) := by decide +kernel
theorem dX0_insert_21 : decode cX0_insert 21 = .ok (.iload_n 3, 1) := by decide +kernel
theorem dX0_insert_22 : decode cX0_insert 22 = .ok (.bipush 24, 2) := by decide +kernel
theorem dX0_insert_24 : decode cX0_insert 24 = .ok (.if_icmp .le 6, 3) := by decide +kernel
theorem dX0_insert_27 : decode cX0_insert 27 = .ok (.bipush (-2), 2) := by decide +kernel
theorem dX0_insert_29 : decode cX0_insert 29 = .ok (.ireturn, 1) := by decide +kernel
theorem dX0_insert_30 : decode cX0_insert 30 = .ok (.aload_n 0, 1) := by decide +kernel
theorem dX0_insert_31 : decode cX0_insert 31 = .ok (.getfield 51, 3) := by decide +kernel
theorem dX0_insert_34 : decode cX0_insert 34 = .ok (.ifCond .ne 14, 3) := by decide +kernel
theorem dX0_insert_37 : decode cX0_insert 37 = .ok (.iload_n 2, 1) := by decide +kernel
theorem dX0_insert_38 : decode cX0_insert 38 = .ok (.iconst 4, 1) := by decide +kernel
theorem dX0_insert_39 : decode cX0_insert 39 = .ok (.imul, 1) := by decide +kernel
theorem dX0_insert_40 : decode cX0_insert 40 = .ok (.aload_n 0, 1) := by decide +kernel
theorem dX0_insert_41 : decode cX0_insert 41 = .ok (.iload_n 1, 1) := by decide +kernel
theorem dX0_insert_42 : decode cX0_insert 42 = .ok (.invokevirtual 36, 3) := by decide +kernel
theorem dX0_insert_45 : decode cX0_insert 45 = .ok (.if_icmp .lt 6, 3) := by decide +kernel
theorem dX0_insert_48 : decode cX0_insert 48 = .ok (.bipush (-3), 2) := by decide +kernel
theorem dX0_insert_50 : decode cX0_insert 50 = .ok (.ireturn, 1) := by decide +kernel
theorem dX0_insert_51 : decode cX0_insert 51 = .ok (.aload_n 0, 1) := by decide +kernel
theorem dX0_insert_52 : decode cX0_insert 52 = .ok (.iload_n 1, 1) := by decide +kernel
theorem dX0_insert_53 : decode cX0_insert 53 = .ok (.invokevirtual 36, 3) := by decide +kernel
theorem dX0_insert_56 : decode cX0_insert 56 = .ok (.iload_n 3, 1) := by decide +kernel
theorem dX0_insert_57 : decode cX0_insert 57 = .ok (.iconst 4, 1) := by decide +kernel
theorem dX0_insert_58 : decode cX0_insert 58 = .ok (.imul, 1) := by decide +kernel
theorem dX0_insert_59 : decode cX0_insert 59 = .ok (.iadd, 1) := by decide +kernel
theorem dX0_insert_60 : decode cX0_insert 60 = .ok (.bipush 96, 2) := by decide +kernel
theorem dX0_insert_62 : decode cX0_insert 62 = .ok (.if_icmp .le 6, 3) := by decide +kernel
theorem dX0_insert_65 : decode cX0_insert 65 = .ok (.bipush (-4), 2) := by decide +kernel
theorem dX0_insert_67 : decode cX0_insert 67 = .ok (.ireturn, 1) := by decide +kernel
theorem dX0_insert_68 : decode cX0_insert 68 = .ok (.bipush 23, 2) := by decide +kernel
theorem dX0_insert_70 : decode cX0_insert 70 = .ok (.istore 4, 2) := by decide +kernel
theorem dX0_insert_72 : decode cX0_insert 72 = .ok (.iload 4, 2) := by decide +kernel
theorem dX0_insert_74 : decode cX0_insert 74 = .ok (.iload_n 2, 1) := by decide +kernel
theorem dX0_insert_75 : decode cX0_insert 75 = .ok (.if_icmp .lt 38, 3) := by decide +kernel
theorem dX0_insert_78 : decode cX0_insert 78 = .ok (.aload_n 0, 1) := by decide +kernel
theorem dX0_insert_79 : decode cX0_insert 79 = .ok (.iload_n 1, 1) := by decide +kernel
theorem dX0_insert_80 : decode cX0_insert 80 = .ok (.iload 4, 2) := by decide +kernel
theorem dX0_insert_82 : decode cX0_insert 82 = .ok (.iload 4, 2) := by decide +kernel
theorem dX0_insert_84 : decode cX0_insert 84 = .ok (.iload_n 3, 1) := by decide +kernel
theorem dX0_insert_85 : decode cX0_insert 85 = .ok (.isub, 1) := by decide +kernel
theorem dX0_insert_86 : decode cX0_insert 86 = .ok (.iload_n 2, 1) := by decide +kernel
theorem dX0_insert_87 : decode cX0_insert 87 = .ok (.if_icmp .lt 15, 3) := by decide +kernel
theorem dX0_insert_90 : decode cX0_insert 90 = .ok (.aload_n 0, 1) := by decide +kernel
theorem dX0_insert_91 : decode cX0_insert 91 = .ok (.iload_n 1, 1) := by decide +kernel
theorem dX0_insert_92 : decode cX0_insert 92 = .ok (.iload 4, 2) := by decide +kernel
theorem dX0_insert_94 : decode cX0_insert 94 = .ok (.iload_n 3, 1) := by decide +kernel
theorem dX0_insert_95 : decode cX0_insert 95 = .ok (.isub, 1) := by decide +kernel
theorem dX0_insert_96 : decode cX0_insert 96 = .ok (.invokevirtual 40, 3) := by decide +kernel
theorem dX0_insert_99 : decode cX0_insert 99 = .ok (.goto 5, 3) := by decide +kernel
theorem dX0_insert_102 : decode cX0_insert 102 = .ok (.bipush (-9), 2) := by decide +kernel
theorem dX0_insert_104 : decode cX0_insert 104 = .ok (.invokevirtual 94, 3) := by decide +kernel
theorem dX0_insert_107 : decode cX0_insert 107 = .ok (.iinc 4 (-1), 3) := by decide +kernel
theorem dX0_insert_110 : decode cX0_insert 110 = .ok (.goto (-38), 3) := by decide +kernel
theorem dX0_insert_113 : decode cX0_insert 113 = .ok (.aload_n 0, 1) := by decide +kernel
theorem dX0_insert_114 : decode cX0_insert 114 = .ok (.iload_n 1, 1) := by decide +kernel
theorem dX0_insert_115 : decode cX0_insert 115 = .ok (.aload_n 0, 1) := by decide +kernel
theorem dX0_insert_116 : decode cX0_insert 116 = .ok (.iload_n 1, 1) := by decide +kernel
theorem dX0_insert_117 : decode cX0_insert 117 = .ok (.invokevirtual 36, 3) := by decide +kernel
theorem dX0_insert_120 : decode cX0_insert 120 = .ok (.iload_n 3, 1) := by decide +kernel
theorem dX0_insert_121 : decode cX0_insert 121 = .ok (.iconst 4, 1) := by decide +kernel
theorem dX0_insert_122 : decode cX0_insert 122 = .ok (.imul, 1) := by decide +kernel
theorem dX0_insert_123 : decode cX0_insert 123 = .ok (.iadd, 1) := by decide +kernel
theorem dX0_insert_124 : decode cX0_insert 124 = .ok (.invokevirtual 83, 3) := by decide +kernel
theorem dX0_insert_127 : decode cX0_insert 127 = .ok (.aload_n 0, 1) := by decide +kernel
theorem dX0_insert_128 : decode cX0_insert 128 = .ok (.iload_n 1, 1) := by decide +kernel
theorem dX0_insert_129 : decode cX0_insert 129 = .ok (.invokevirtual 36, 3) := by decide +kernel
theorem dX0_insert_132 : decode cX0_insert 132 = .ok (.ireturn, 1) := by decide +kernel
theorem dX0_share_0 : decode cX0_share 0 = .ok (.iload_n 1, 1) := by decide +kernel
theorem dX0_share_1 : decode cX0_share 1 = .ok (.invokestatic 32, 3) := by decide +kernel
theorem dX0_share_4 : decode cX0_share 4 = .ok (.ifCond .eq 10, 3) := by decide +kernel
theorem dX0_share_7 : decode cX0_share 7 = .ok (.iload_n 3, 1) := by decide +kernel
theorem dX0_share_8 : decode cX0_share 8 = .ok (.invokestatic 32, 3) := by decide +kernel
theorem dX0_share_11 : decode cX0_share 11 = .ok (.ifCond .ne 5, 3) := by decide +kernel
theorem dX0_share_14 : decode cX0_share 14 = .ok (.iconst (-1), 1) := by decide +kernel
theorem dX0_share_15 : decode cX0_share 15 = .ok (.ireturn, 1) := by decide +kernel
theorem dX0_share_16 : decode cX0_share 16 = .ok (.iload_n 2, 1) := by decide +kernel
theorem dX0_share_17 : decode cX0_share 17 = .ok (.iload 5, 2) := by decide +kernel
theorem dX0_share_19 : decode cX0_share 19 = .ok (.invokestatic 91, 3) := by decide +kernel
theorem dX0_share_22 : decode cX0_share 22 = .ok (.ifCond .eq 13, 3) := by decide +kernel
theorem dX0_share_25 : decode cX0_share 25 = .ok (.iload 4, 2) := by decide +kernel
theorem dX0_share_27 : decode cX0_share 27 = .ok (.iload 5, 2) := by decide +kernel
theorem dX0_share_29 : decode cX0_share 29 = .ok (.invokestatic 91, 3) := by decide +kernel
theorem dX0_share_32 : decode cX0_share 32 = .ok (.ifCond .ne 6, 3) := by decide +kernel
theorem dX0_share_35 : decode cX0_share 35 = .ok (.bipush (-2), 2) := by decide +kernel
theorem dX0_share_37 : decode cX0_share 37 = .ok (.ireturn, 1) := by decide +kernel
theorem dX0_share_38 : decode cX0_share 38 = .ok (.aload_n 0, 1) := by decide +kernel
theorem dX0_share_39 : decode cX0_share 39 = .ok (.getfield 51, 3) := by decide +kernel
theorem dX0_share_42 : decode cX0_share 42 = .ok (.ifCond .ne 27, 3) := by decide +kernel
theorem dX0_share_45 : decode cX0_share 45 = .ok (.aload_n 0, 1) := by decide +kernel
theorem dX0_share_46 : decode cX0_share 46 = .ok (.iload_n 1, 1) := by decide +kernel
theorem dX0_share_47 : decode cX0_share 47 = .ok (.iload_n 2, 1) := by decide +kernel
theorem dX0_share_48 : decode cX0_share 48 = .ok (.iload 5, 2) := by decide +kernel
theorem dX0_share_50 : decode cX0_share 50 = .ok (.invokevirtual 100, 3) := by decide +kernel
theorem dX0_share_53 : decode cX0_share 53 = .ok (.ifCond .eq 16, 3) := by decide +kernel
theorem dX0_share_56 : decode cX0_share 56 = .ok (.iload_n 1, 1) := by decide +kernel
theorem dX0_share_57 : decode cX0_share 57 = .ok (.iload_n 2, 1) := by decide +kernel
theorem dX0_share_58 : decode cX0_share 58 = .ok (.iload_n 3, 1) := by decide +kernel
theorem dX0_share_59 : decode cX0_share 59 = .ok (.iload 4, 2) := by decide +kernel
theorem dX0_share_61 : decode cX0_share 61 = .ok (.iload 5, 2) := by decide +kernel
theorem dX0_share_63 : decode cX0_share 63 = .ok (.invokestatic 104, 3) := by decide +kernel
theorem dX0_share_66 : decode cX0_share 66 = .ok (.ifCond .eq 6, 3) := by decide +kernel
theorem dX0_share_69 : decode cX0_share 69 = .ok (.bipush (-3), 2) := by decide +kernel
theorem dX0_share_71 : decode cX0_share 71 = .ok (.ireturn, 1) := by decide +kernel
theorem dX0_share_72 : decode cX0_share 72 = .ok (.iconst 0, 1) := by decide +kernel
theorem dX0_share_73 : decode cX0_share 73 = .ok (.istore 6, 2) := by decide +kernel
theorem dX0_share_75 : decode cX0_share 75 = .ok (.iload 6, 2) := by decide +kernel
theorem dX0_share_77 : decode cX0_share 77 = .ok (.iload 5, 2) := by decide +kernel
theorem dX0_share_79 : decode cX0_share 79 = .ok (.if_icmp .ge 28, 3) := by decide +kernel
theorem dX0_share_82 : decode cX0_share 82 = .ok (.aload_n 0, 1) := by decide +kernel
theorem dX0_share_83 : decode cX0_share 83 = .ok (.iload_n 3, 1) := by decide +kernel
theorem dX0_share_84 : decode cX0_share 84 = .ok (.iload 4, 2) := by decide +kernel
theorem dX0_share_86 : decode cX0_share 86 = .ok (.iload 6, 2) := by decide +kernel
theorem dX0_share_88 : decode cX0_share 88 = .ok (.iadd, 1) := by decide +kernel
theorem dX0_share_89 : decode cX0_share 89 = .ok (.aload_n 0, 1) := by decide +kernel
theorem dX0_share_90 : decode cX0_share 90 = .ok (.iload_n 1, 1) := by decide +kernel
theorem dX0_share_91 : decode cX0_share 91 = .ok (.iload_n 2, 1) := by decide +kernel
theorem dX0_share_92 : decode cX0_share 92 = .ok (.iload 6, 2) := by decide +kernel
theorem dX0_share_94 : decode cX0_share 94 = .ok (.iadd, 1) := by decide +kernel
theorem dX0_share_95 : decode cX0_share 95 = .ok (.invokevirtual 40, 3) := by decide +kernel
theorem dX0_share_98 : decode cX0_share 98 = .ok (.invokevirtual 94, 3) := by decide +kernel
theorem dX0_share_101 : decode cX0_share 101 = .ok (.iinc 6 1, 3) := by decide +kernel
theorem dX0_share_104 : decode cX0_share 104 = .ok (.goto (-29), 3) := by decide +kernel
theorem dX0_share_107 : decode cX0_share 107 = .ok (.aload_n 0, 1) := by decide +kernel
theorem dX0_share_108 : decode cX0_share 108 = .ok (.iload_n 3, 1) := by decide +kernel
theorem dX0_share_109 : decode cX0_share 109 = .ok (.iload 4, 2) := by decide +kernel
theorem dX0_share_111 : decode cX0_share 111 = .ok (.iload 5, 2) := by decide +kernel
theorem dX0_share_113 : decode cX0_share 113 = .ok (.iadd, 1) := by decide +kernel
theorem dX0_share_114 : decode cX0_share 114 = .ok (.iconst 4, 1) := by decide +kernel
theorem dX0_share_115 : decode cX0_share 115 = .ok (.imul, 1) := by decide +kernel
theorem dX0_share_116 : decode cX0_share 116 = .ok (.invokevirtual 71, 3) := by decide +kernel
theorem dX0_share_119 : decode cX0_share 119 = .ok (.aload_n 0, 1) := by decide +kernel
theorem dX0_share_120 : decode cX0_share 120 = .ok (.iload_n 3, 1) := by decide +kernel
theorem dX0_share_121 : decode cX0_share 121 = .ok (.invokevirtual 36, 3) := by decide +kernel
theorem dX0_share_124 : decode cX0_share 124 = .ok (.ireturn, 1) := by decide +kernel
theorem dX0_unshare_0 : decode cX0_unshare 0 = .ok (.iload_n 1, 1) := by decide +kernel
theorem dX0_unshare_1 : decode cX0_unshare 1 = .ok (.invokestatic 32, 3) := by decide +kernel
theorem dX0_unshare_4 : decode cX0_unshare 4 = .ok (.ifCond .ne 5, 3) := by decide +kernel
theorem dX0_unshare_7 : decode cX0_unshare 7 = .ok (.iconst (-1), 1) := by decide +kernel
theorem dX0_unshare_8 : decode cX0_unshare 8 = .ok (.ireturn, 1) := by decide +kernel
theorem dX0_unshare_9 : decode cX0_unshare 9 = .ok (.iload_n 2, 1) := by decide +kernel
theorem dX0_unshare_10 : decode cX0_unshare 10 = .ok (.iload_n 3, 1) := by decide +kernel
theorem dX0_unshare_11 : decode cX0_unshare 11 = .ok (.invokestatic 91, 3) := by decide +kernel
theorem dX0_unshare_14 : decode cX0_unshare 14 = .ok (.ifCond .ne 6, 3) := by decide +kernel
theorem dX0_unshare_17 : decode cX0_unshare 17 = .ok (.bipush (-2), 2) := by decide +kernel
theorem dX0_unshare_19 : decode cX0_unshare 19 = .ok (.ireturn, 1) := by decide +kernel
theorem dX0_unshare_20 : decode cX0_unshare 20 = .ok (.aload_n 0, 1) := by decide +kernel
theorem dX0_unshare_21 : decode cX0_unshare 21 = .ok (.getfield 51, 3) := by decide +kernel
theorem dX0_unshare_24 : decode cX0_unshare 24 = .ok (.ifCond .eq 6, 3) := by decide +kernel
theorem dX0_unshare_27 : decode cX0_unshare 27 = .ok (.bipush (-3), 2) := by decide +kernel
theorem dX0_unshare_29 : decode cX0_unshare 29 = .ok (.ireturn, 1) := by decide +kernel
theorem dX0_unshare_30 : decode cX0_unshare 30 = .ok (.aload_n 0, 1) := by decide +kernel
theorem dX0_unshare_31 : decode cX0_unshare 31 = .ok (.iload_n 1, 1) := by decide +kernel
theorem dX0_unshare_32 : decode cX0_unshare 32 = .ok (.iload_n 2, 1) := by decide +kernel
theorem dX0_unshare_33 : decode cX0_unshare 33 = .ok (.iload_n 2, 1) := by decide +kernel
theorem dX0_unshare_34 : decode cX0_unshare 34 = .ok (.iload_n 3, 1) := by decide +kernel
theorem dX0_unshare_35 : decode cX0_unshare 35 = .ok (.iadd, 1) := by decide +kernel
theorem dX0_unshare_36 : decode cX0_unshare 36 = .ok (.iconst 1, 1) := by decide +kernel
theorem dX0_unshare_37 : decode cX0_unshare 37 = .ok (.isub, 1) := by decide +kernel
theorem dX0_unshare_38 : decode cX0_unshare 38 = .ok (.iconst 0, 1) := by decide +kernel
theorem dX0_unshare_39 : decode cX0_unshare 39 = .ok (.invokevirtual 55, 3) := by decide +kernel
theorem dX0_unshare_42 : decode cX0_unshare 42 = .ok (.aload_n 0, 1) := by decide +kernel
theorem dX0_unshare_43 : decode cX0_unshare 43 = .ok (.invokevirtual 59, 3) := by decide +kernel
theorem dX0_unshare_46 : decode cX0_unshare 46 = .ok (.ifCond .eq 6, 3) := by decide +kernel
theorem dX0_unshare_49 : decode cX0_unshare 49 = .ok (.bipush (-6), 2) := by decide +kernel
theorem dX0_unshare_51 : decode cX0_unshare 51 = .ok (.ireturn, 1) := by decide +kernel
theorem dX0_unshare_52 : decode cX0_unshare 52 = .ok (.aload_n 0, 1) := by decide +kernel
theorem dX0_unshare_53 : decode cX0_unshare 53 = .ok (.iload_n 1, 1) := by decide +kernel
theorem dX0_unshare_54 : decode cX0_unshare 54 = .ok (.invokevirtual 63, 3) := by decide +kernel
theorem dX0_unshare_57 : decode cX0_unshare 57 = .ok (.aload_n 0, 1) := by decide +kernel
theorem dX0_unshare_58 : decode cX0_unshare 58 = .ok (.getfield 108, 3) := by decide +kernel
theorem dX0_unshare_61 : decode cX0_unshare 61 = .ok (.ireturn, 1) := by decide +kernel
theorem dX0_failure_0 : decode cX0_failure 0 = .ok (.iload_n 1, 1) := by decide +kernel
theorem dX0_failure_1 : decode cX0_failure 1 = .ok (.bipush (-9), 2) := by decide +kernel
theorem dX0_failure_3 : decode cX0_failure 3 = .ok (.if_icmp .eq 13, 3) := by decide +kernel
theorem dX0_failure_6 : decode cX0_failure 6 = .ok (.iload_n 1, 1) := by decide +kernel
theorem dX0_failure_7 : decode cX0_failure 7 = .ok (.invokestatic 97, 3) := by decide +kernel
theorem dX0_failure_10 : decode cX0_failure 10 = .ok (.ifCond .ne 6, 3) := by decide +kernel
theorem dX0_failure_13 : decode cX0_failure 13 = .ok (.bipush (-2), 2) := by decide +kernel
theorem dX0_failure_15 : decode cX0_failure 15 = .ok (.ireturn, 1) := by decide +kernel
theorem dX0_failure_16 : decode cX0_failure 16 = .ok (.aload_n 0, 1) := by decide +kernel
theorem dX0_failure_17 : decode cX0_failure 17 = .ok (.getfield 51, 3) := by decide +kernel
theorem dX0_failure_20 : decode cX0_failure 20 = .ok (.ifCond .eq 6, 3) := by decide +kernel
theorem dX0_failure_23 : decode cX0_failure 23 = .ok (.bipush (-3), 2) := by decide +kernel
theorem dX0_failure_25 : decode cX0_failure 25 = .ok (.ireturn, 1) := by decide +kernel
theorem dX0_failure_26 : decode cX0_failure 26 = .ok (.aload_n 0, 1) := by decide +kernel
theorem dX0_failure_27 : decode cX0_failure 27 = .ok (.getfield 28, 3) := by decide +kernel
theorem dX0_failure_30 : decode cX0_failure 30 = .ok (.istore_n 2, 1) := by decide +kernel
theorem dX0_failure_31 : decode cX0_failure 31 = .ok (.aload_n 0, 1) := by decide +kernel
theorem dX0_failure_32 : decode cX0_failure 32 = .ok (.iload_n 1, 1) := by decide +kernel
theorem dX0_failure_33 : decode cX0_failure 33 = .ok (.putfield 28, 3) := by decide +kernel
theorem dX0_failure_36 : decode cX0_failure 36 = .ok (.iload_n 2, 1) := by decide +kernel
theorem dX0_failure_37 : decode cX0_failure 37 = .ok (.ireturn, 1) := by decide +kernel
theorem dX0_exchange_0 : decode cX0_exchange 0 = .ok (.iload_n 1, 1) := by decide +kernel
theorem dX0_exchange_1 : decode cX0_exchange 1 = .ok (.invokestatic 32, 3) := by decide +kernel
theorem dX0_exchange_4 : decode cX0_exchange 4 = .ok (.ifCond .eq 10, 3) := by decide +kernel
theorem dX0_exchange_7 : decode cX0_exchange 7 = .ok (.iload_n 3, 1) := by decide +kernel
theorem dX0_exchange_8 : decode cX0_exchange 8 = .ok (.invokestatic 32, 3) := by decide +kernel
theorem dX0_exchange_11 : decode cX0_exchange 11 = .ok (.ifCond .ne 5, 3) := by decide +kernel
theorem dX0_exchange_14 : decode cX0_exchange 14 = .ok (.iconst (-1), 1) := by decide +kernel
theorem dX0_exchange_15 : decode cX0_exchange 15 = .ok (.ireturn, 1) := by decide +kernel
theorem dX0_exchange_16 : decode cX0_exchange 16 = .ok (.iload_n 2, 1) := by decide +kernel
theorem dX0_exchange_17 : decode cX0_exchange 17 = .ok (.iload 5, 2) := by decide +kernel
theorem dX0_exchange_19 : decode cX0_exchange 19 = .ok (.invokestatic 91, 3) := by decide +kernel
theorem dX0_exchange_22 : decode cX0_exchange 22 = .ok (.ifCond .eq 13, 3) := by decide +kernel
theorem dX0_exchange_25 : decode cX0_exchange 25 = .ok (.iload 4, 2) := by decide +kernel
theorem dX0_exchange_27 : decode cX0_exchange 27 = .ok (.iload 5, 2) := by decide +kernel
theorem dX0_exchange_29 : decode cX0_exchange 29 = .ok (.invokestatic 91, 3) := by decide +kernel
theorem dX0_exchange_32 : decode cX0_exchange 32 = .ok (.ifCond .ne 6, 3) := by decide +kernel
theorem dX0_exchange_35 : decode cX0_exchange 35 = .ok (.bipush (-2), 2) := by decide +kernel
theorem dX0_exchange_37 : decode cX0_exchange 37 = .ok (.ireturn, 1) := by decide +kernel
theorem dX0_exchange_38 : decode cX0_exchange 38 = .ok (.aload_n 0, 1) := by decide +kernel
theorem dX0_exchange_39 : decode cX0_exchange 39 = .ok (.getfield 51, 3) := by decide +kernel
theorem dX0_exchange_42 : decode cX0_exchange 42 = .ok (.ifCond .ne 39, 3) := by decide +kernel
theorem dX0_exchange_45 : decode cX0_exchange 45 = .ok (.aload_n 0, 1) := by decide +kernel
theorem dX0_exchange_46 : decode cX0_exchange 46 = .ok (.iload_n 1, 1) := by decide +kernel
theorem dX0_exchange_47 : decode cX0_exchange 47 = .ok (.iload_n 2, 1) := by decide +kernel
theorem dX0_exchange_48 : decode cX0_exchange 48 = .ok (.iload 5, 2) := by decide +kernel
theorem dX0_exchange_50 : decode cX0_exchange 50 = .ok (.invokevirtual 100, 3) := by decide +kernel
theorem dX0_exchange_53 : decode cX0_exchange 53 = .ok (.ifCond .eq 28, 3) := by decide +kernel
theorem dX0_exchange_56 : decode cX0_exchange 56 = .ok (.aload_n 0, 1) := by decide +kernel
theorem dX0_exchange_57 : decode cX0_exchange 57 = .ok (.iload_n 3, 1) := by decide +kernel
theorem dX0_exchange_58 : decode cX0_exchange 58 = .ok (.iload 4, 2) := by decide +kernel
theorem dX0_exchange_60 : decode cX0_exchange 60 = .ok (.iload 5, 2) := by decide +kernel
theorem dX0_exchange_62 : decode cX0_exchange 62 = .ok (.invokevirtual 100, 3) := by decide +kernel
theorem dX0_exchange_65 : decode cX0_exchange 65 = .ok (.ifCond .eq 16, 3) := by decide +kernel
theorem dX0_exchange_68 : decode cX0_exchange 68 = .ok (.iload_n 1, 1) := by decide +kernel
theorem dX0_exchange_69 : decode cX0_exchange 69 = .ok (.iload_n 2, 1) := by decide +kernel
theorem dX0_exchange_70 : decode cX0_exchange 70 = .ok (.iload_n 3, 1) := by decide +kernel
theorem dX0_exchange_71 : decode cX0_exchange 71 = .ok (.iload 4, 2) := by decide +kernel
theorem dX0_exchange_73 : decode cX0_exchange 73 = .ok (.iload 5, 2) := by decide +kernel
theorem dX0_exchange_75 : decode cX0_exchange 75 = .ok (.invokestatic 104, 3) := by decide +kernel
theorem dX0_exchange_78 : decode cX0_exchange 78 = .ok (.ifCond .eq 6, 3) := by decide +kernel
theorem dX0_exchange_81 : decode cX0_exchange 81 = .ok (.bipush (-3), 2) := by decide +kernel
theorem dX0_exchange_83 : decode cX0_exchange 83 = .ok (.ireturn, 1) := by decide +kernel
theorem dX0_exchange_84 : decode cX0_exchange 84 = .ok (.aload_n 0, 1) := by decide +kernel
theorem dX0_exchange_85 : decode cX0_exchange 85 = .ok (.iload_n 1, 1) := by decide +kernel
theorem dX0_exchange_86 : decode cX0_exchange 86 = .ok (.iload_n 2, 1) := by decide +kernel
theorem dX0_exchange_87 : decode cX0_exchange 87 = .ok (.iload_n 3, 1) := by decide +kernel
theorem dX0_exchange_88 : decode cX0_exchange 88 = .ok (.iload 4, 2) := by decide +kernel
theorem dX0_exchange_90 : decode cX0_exchange 90 = .ok (.iload 5, 2) := by decide +kernel
theorem dX0_exchange_92 : decode cX0_exchange 92 = .ok (.invokevirtual 111, 3) := by decide +kernel
theorem dX0_exchange_95 : decode cX0_exchange 95 = .ok (.aload_n 0, 1) := by decide +kernel
theorem dX0_exchange_96 : decode cX0_exchange 96 = .ok (.aload_n 0, 1) := by decide +kernel
theorem dX0_exchange_97 : decode cX0_exchange 97 = .ok (.getfield 28, 3) := by decide +kernel
theorem dX0_exchange_100 : decode cX0_exchange 100 = .ok (.bipush (-9), 2) := by decide +kernel
theorem dX0_exchange_102 : decode cX0_exchange 102 = .ok (.if_icmp .eq 16, 3) := by decide +kernel
theorem dX0_exchange_105 : decode cX0_exchange 105 = .ok (.aload_n 0, 1) := by decide +kernel
theorem dX0_exchange_106 : decode cX0_exchange 106 = .ok (.getfield 28, 3) := by decide +kernel
theorem dX0_exchange_109 : decode cX0_exchange 109 = .ok (.iload 5, 2) := by decide +kernel
theorem dX0_exchange_111 : decode cX0_exchange 111 = .ok (.if_icmp .ge 7, 3) := by decide +kernel
theorem dX0_exchange_114 : decode cX0_exchange 114 = .ok (.iconst 1, 1) := by decide +kernel
theorem dX0_exchange_115 : decode cX0_exchange 115 = .ok (.goto 4, 3) := by decide +kernel
theorem dX0_exchange_118 : decode cX0_exchange 118 = .ok (.iconst 0, 1) := by decide +kernel
theorem dX0_exchange_119 : decode cX0_exchange 119 = .ok (.putfield 51, 3) := by decide +kernel
theorem dX0_exchange_122 : decode cX0_exchange 122 = .ok (.aload_n 0, 1) := by decide +kernel
theorem dX0_exchange_123 : decode cX0_exchange 123 = .ok (.aload_n 0, 1) := by decide +kernel
theorem dX0_exchange_124 : decode cX0_exchange 124 = .ok (.getfield 51, 3) := by decide +kernel
theorem dX0_exchange_127 : decode cX0_exchange 127 = .ok (.ifCond .eq 10, 3) := by decide +kernel
theorem dX0_exchange_130 : decode cX0_exchange 130 = .ok (.aload_n 0, 1) := by decide +kernel
theorem dX0_exchange_131 : decode cX0_exchange 131 = .ok (.getfield 28, 3) := by decide +kernel
theorem dX0_exchange_134 : decode cX0_exchange 134 = .ok (.goto 5, 3) := by decide +kernel
theorem dX0_exchange_137 : decode cX0_exchange 137 = .ok (.iload 5, 2) := by decide +kernel
theorem dX0_exchange_139 : decode cX0_exchange 139 = .ok (.putfield 115, 3) := by decide +kernel
theorem dX0_exchange_142 : decode cX0_exchange 142 = .ok (.aload_n 0, 1) := by decide +kernel
theorem dX0_exchange_143 : decode cX0_exchange 143 = .ok (.iconst 0, 1) := by decide +kernel
theorem dX0_exchange_144 : decode cX0_exchange 144 = .ok (.aload_n 0, 1) := by decide +kernel
theorem dX0_exchange_145 : decode cX0_exchange 145 = .ok (.getfield 115, 3) := by decide +kernel
theorem dX0_exchange_148 : decode cX0_exchange 148 = .ok (.invokevirtual 118, 3) := by decide +kernel
theorem dX0_exchange_151 : decode cX0_exchange 151 = .ok (.aload_n 0, 1) := by decide +kernel
theorem dX0_exchange_152 : decode cX0_exchange 152 = .ok (.bipush (-9), 2) := by decide +kernel
theorem dX0_exchange_154 : decode cX0_exchange 154 = .ok (.putfield 28, 3) := by decide +kernel
theorem dX0_exchange_157 : decode cX0_exchange 157 = .ok (.aload_n 0, 1) := by decide +kernel
theorem dX0_exchange_158 : decode cX0_exchange 158 = .ok (.getfield 115, 3) := by decide +kernel
theorem dX0_exchange_161 : decode cX0_exchange 161 = .ok (.ireturn, 1) := by decide +kernel
theorem dX0_mount_0 : decode cX0_mount 0 = .ok (.aload_n 0, 1) := by decide +kernel
theorem dX0_mount_1 : decode cX0_mount 1 = .ok (.getfield 51, 3) := by decide +kernel
theorem dX0_mount_4 : decode cX0_mount 4 = .ok (.ifCond .ne 6, 3) := by decide +kernel
theorem dX0_mount_7 : decode cX0_mount 7 = .ok (.bipush (-3), 2) := by decide +kernel
theorem dX0_mount_9 : decode cX0_mount 9 = .ok (.ireturn, 1) := by decide +kernel
theorem dX0_mount_10 : decode cX0_mount 10 = .ok (.iload_n 1, 1) := by decide +kernel
theorem dX0_mount_11 : decode cX0_mount 11 = .ok (.ifCond .eq 10, 3) := by decide +kernel
theorem dX0_mount_14 : decode cX0_mount 14 = .ok (.aload_n 0, 1) := by decide +kernel
theorem dX0_mount_15 : decode cX0_mount 15 = .ok (.getfield 115, 3) := by decide +kernel
theorem dX0_mount_18 : decode cX0_mount 18 = .ok (.goto 4, 3) := by decide +kernel
theorem dX0_mount_21 : decode cX0_mount 21 = .ok (.iconst 0, 1) := by decide +kernel
theorem dX0_mount_22 : decode cX0_mount 22 = .ok (.istore_n 2, 1) := by decide +kernel
theorem dX0_mount_23 : decode cX0_mount 23 = .ok (.iload_n 1, 1) := by decide +kernel
theorem dX0_mount_24 : decode cX0_mount 24 = .ok (.ifCond .eq 10, 3) := by decide +kernel
theorem dX0_mount_27 : decode cX0_mount 27 = .ok (.aload_n 0, 1) := by decide +kernel
theorem dX0_mount_28 : decode cX0_mount 28 = .ok (.getfield 121, 3) := by decide +kernel
theorem dX0_mount_31 : decode cX0_mount 31 = .ok (.goto 7, 3) := by decide +kernel
theorem dX0_mount_34 : decode cX0_mount 34 = .ok (.aload_n 0, 1) := by decide +kernel
theorem dX0_mount_35 : decode cX0_mount 35 = .ok (.getfield 115, 3) := by decide +kernel
theorem dX0_mount_38 : decode cX0_mount 38 = .ok (.istore_n 3, 1) := by decide +kernel
theorem dX0_mount_39 : decode cX0_mount 39 = .ok (.aload_n 0, 1) := by decide +kernel
theorem dX0_mount_40 : decode cX0_mount 40 = .ok (.iload_n 2, 1) := by decide +kernel
theorem dX0_mount_41 : decode cX0_mount 41 = .ok (.iload_n 3, 1) := by decide +kernel
theorem dX0_mount_42 : decode cX0_mount 42 = .ok (.invokevirtual 118, 3) := by decide +kernel
theorem dX0_mount_45 : decode cX0_mount 45 = .ok (.aload_n 0, 1) := by decide +kernel
theorem dX0_mount_46 : decode cX0_mount 46 = .ok (.iconst 0, 1) := by decide +kernel
theorem dX0_mount_47 : decode cX0_mount 47 = .ok (.putfield 51, 3) := by decide +kernel
theorem dX0_mount_50 : decode cX0_mount 50 = .ok (.iload_n 3, 1) := by decide +kernel
theorem dX0_mount_51 : decode cX0_mount 51 = .ok (.iload_n 2, 1) := by decide +kernel
theorem dX0_mount_52 : decode cX0_mount 52 = .ok (.isub, 1) := by decide +kernel
theorem dX0_mount_53 : decode cX0_mount 53 = .ok (.ireturn, 1) := by decide +kernel
theorem dX0_ofFile_0 : decode cX0_ofFile 0 = .ok (.iload_n 1, 1) := by decide +kernel
theorem dX0_ofFile_1 : decode cX0_ofFile 1 = .ok (.invokestatic 32, 3) := by decide +kernel
theorem dX0_ofFile_4 : decode cX0_ofFile 4 = .ok (.ifCond .ne 5, 3) := by decide +kernel
theorem dX0_ofFile_7 : decode cX0_ofFile 7 = .ok (.iconst (-1), 1) := by decide +kernel
theorem dX0_ofFile_8 : decode cX0_ofFile 8 = .ok (.ireturn, 1) := by decide +kernel
theorem dX0_ofFile_9 : decode cX0_ofFile 9 = .ok (.iload_n 2, 1) := by decide +kernel
theorem dX0_ofFile_10 : decode cX0_ofFile 10 = .ok (.tableswitch 56 0 3 #[30, 36, 43, 50], 30) := by decide +kernel
theorem dX0_ofFile_40 : decode cX0_ofFile 40 = .ok (.aload_n 0, 1) := by decide +kernel
theorem dX0_ofFile_41 : decode cX0_ofFile 41 = .ok (.iload_n 1, 1) := by decide +kernel
theorem dX0_ofFile_42 : decode cX0_ofFile 42 = .ok (.invokevirtual 36, 3) := by decide +kernel
theorem dX0_ofFile_45 : decode cX0_ofFile 45 = .ok (.ireturn, 1) := by decide +kernel
theorem dX0_ofFile_46 : decode cX0_ofFile 46 = .ok (.aload_n 0, 1) := by decide +kernel
theorem dX0_ofFile_47 : decode cX0_ofFile 47 = .ok (.iload_n 1, 1) := by decide +kernel
theorem dX0_ofFile_48 : decode cX0_ofFile 48 = .ok (.iconst 1, 1) := by decide +kernel
theorem dX0_ofFile_49 : decode cX0_ofFile 49 = .ok (.invokevirtual 124, 3) := by decide +kernel
theorem dX0_ofFile_52 : decode cX0_ofFile 52 = .ok (.ireturn, 1) := by decide +kernel
theorem dX0_ofFile_53 : decode cX0_ofFile 53 = .ok (.aload_n 0, 1) := by decide +kernel
theorem dX0_ofFile_54 : decode cX0_ofFile 54 = .ok (.iload_n 1, 1) := by decide +kernel
theorem dX0_ofFile_55 : decode cX0_ofFile 55 = .ok (.iconst 2, 1) := by decide +kernel
theorem dX0_ofFile_56 : decode cX0_ofFile 56 = .ok (.invokevirtual 124, 3) := by decide +kernel
theorem dX0_ofFile_59 : decode cX0_ofFile 59 = .ok (.ireturn, 1) := by decide +kernel
theorem dX0_ofFile_60 : decode cX0_ofFile 60 = .ok (.aload_n 0, 1) := by decide +kernel
theorem dX0_ofFile_61 : decode cX0_ofFile 61 = .ok (.iload_n 1, 1) := by decide +kernel
theorem dX0_ofFile_62 : decode cX0_ofFile 62 = .ok (.invokevirtual 127, 3) := by decide +kernel
theorem dX0_ofFile_65 : decode cX0_ofFile 65 = .ok (.ireturn, 1) := by decide +kernel
theorem dX0_ofFile_66 : decode cX0_ofFile 66 = .ok (.bipush (-2), 2) := by decide +kernel
theorem dX0_ofFile_68 : decode cX0_ofFile 68 = .ok (.ireturn, 1) := by decide +kernel
theorem dX0_block_0 : decode cX0_block 0 = .ok (.iload_n 1, 1) := by decide +kernel
theorem dX0_block_1 : decode cX0_block 1 = .ok (.invokestatic 32, 3) := by decide +kernel
theorem dX0_block_4 : decode cX0_block 4 = .ok (.ifCond .ne 5, 3) := by decide +kernel
theorem dX0_block_7 : decode cX0_block 7 = .ok (.iconst (-1), 1) := by decide +kernel
theorem dX0_block_8 : decode cX0_block 8 = .ok (.ireturn, 1) := by decide +kernel
theorem dX0_block_9 : decode cX0_block 9 = .ok (.iload_n 2, 1) := by decide +kernel
theorem dX0_block_10 : decode cX0_block 10 = .ok (.invokestatic 97, 3) := by decide +kernel
theorem dX0_block_13 : decode cX0_block 13 = .ok (.ifCond .ne 6, 3) := by decide +kernel
theorem dX0_block_16 : decode cX0_block 16 = .ok (.bipush (-2), 2) := by decide +kernel
theorem dX0_block_18 : decode cX0_block 18 = .ok (.ireturn, 1) := by decide +kernel
theorem dX0_block_19 : decode cX0_block 19 = .ok (.aload_n 0, 1) := by decide +kernel
theorem dX0_block_20 : decode cX0_block 20 = .ok (.iload_n 1, 1) := by decide +kernel
theorem dX0_block_21 : decode cX0_block 21 = .ok (.iload_n 2, 1) := by decide +kernel
theorem dX0_block_22 : decode cX0_block 22 = .ok (.invokevirtual 40, 3) := by decide +kernel
theorem dX0_block_25 : decode cX0_block 25 = .ok (.ireturn, 1) := by decide +kernel
theorem dX0_piece_0 : decode cX0_piece 0 = .ok (.iload_n 1, 1) := by decide +kernel
theorem dX0_piece_1 : decode cX0_piece 1 = .ok (.invokestatic 32, 3) := by decide +kernel
theorem dX0_piece_4 : decode cX0_piece 4 = .ok (.ifCond .ne 5, 3) := by decide +kernel
theorem dX0_piece_7 : decode cX0_piece 7 = .ok (.iconst (-1), 1) := by decide +kernel
theorem dX0_piece_8 : decode cX0_piece 8 = .ok (.ireturn, 1) := by decide +kernel
theorem dX0_piece_9 : decode cX0_piece 9 = .ok (.iload_n 2, 1) := by decide +kernel
theorem dX0_piece_10 : decode cX0_piece 10 = .ok (.invokestatic 97, 3) := by decide +kernel
theorem dX0_piece_13 : decode cX0_piece 13 = .ok (.ifCond .eq 12, 3) := by decide +kernel
theorem dX0_piece_16 : decode cX0_piece 16 = .ok (.iload_n 3, 1) := by decide +kernel
theorem dX0_piece_17 : decode cX0_piece 17 = .ok (.ifCond .lt 8, 3) := by decide +kernel
theorem dX0_piece_20 : decode cX0_piece 20 = .ok (.iload_n 3, 1) := by decide +kernel
theorem dX0_piece_21 : decode cX0_piece 21 = .ok (.iconst 2, 1) := by decide +kernel
theorem dX0_piece_22 : decode cX0_piece 22 = .ok (.if_icmp .le 6, 3) := by decide +kernel
theorem dX0_piece_25 : decode cX0_piece 25 = .ok (.bipush (-2), 2) := by decide +kernel
theorem dX0_piece_27 : decode cX0_piece 27 = .ok (.ireturn, 1) := by decide +kernel
theorem dX0_piece_28 : decode cX0_piece 28 = .ok (.aload_n 0, 1) := by decide +kernel
theorem dX0_piece_29 : decode cX0_piece 29 = .ok (.iload_n 1, 1) := by decide +kernel
theorem dX0_piece_30 : decode cX0_piece 30 = .ok (.iload_n 2, 1) := by decide +kernel
theorem dX0_piece_31 : decode cX0_piece 31 = .ok (.invokevirtual 130, 3) := by decide +kernel
theorem dX0_piece_34 : decode cX0_piece 34 = .ok (.istore 4, 2) := by decide +kernel
theorem dX0_piece_36 : decode cX0_piece 36 = .ok (.iload 4, 2) := by decide +kernel
theorem dX0_piece_38 : decode cX0_piece 38 = .ok (.bipush (-9), 2) := by decide +kernel
theorem dX0_piece_40 : decode cX0_piece 40 = .ok (.if_icmp .ne 6, 3) := by decide +kernel
theorem dX0_piece_43 : decode cX0_piece 43 = .ok (.bipush (-9), 2) := by decide +kernel
theorem dX0_piece_45 : decode cX0_piece 45 = .ok (.ireturn, 1) := by decide +kernel
theorem dX0_piece_46 : decode cX0_piece 46 = .ok (.iload_n 3, 1) := by decide +kernel
theorem dX0_piece_47 : decode cX0_piece 47 = .ok (.lookupswitch 36 #[(0, 25), (1, 28)], 25) := by decide +kernel
theorem dX0_piece_72 : decode cX0_piece 72 = .ok (.iload 4, 2) := by decide +kernel
theorem dX0_piece_74 : decode cX0_piece 74 = .ok (.ireturn, 1) := by decide +kernel
theorem dX0_piece_75 : decode cX0_piece 75 = .ok (.aload_n 0, 1) := by decide +kernel
theorem dX0_piece_76 : decode cX0_piece 76 = .ok (.iload_n 1, 1) := by decide +kernel
theorem dX0_piece_77 : decode cX0_piece 77 = .ok (.iload 4, 2) := by decide +kernel
theorem dX0_piece_79 : decode cX0_piece 79 = .ok (.invokevirtual 40, 3) := by decide +kernel
theorem dX0_piece_82 : decode cX0_piece 82 = .ok (.ireturn, 1) := by decide +kernel
theorem dX0_piece_83 : decode cX0_piece 83 = .ok (.aload_n 0, 1) := by decide +kernel
theorem dX0_piece_84 : decode cX0_piece 84 = .ok (.iload_n 1, 1) := by decide +kernel
theorem dX0_piece_85 : decode cX0_piece 85 = .ok (.iload 4, 2) := by decide +kernel
theorem dX0_piece_87 : decode cX0_piece 87 = .ok (.invokevirtual 133, 3) := by decide +kernel
theorem dX0_piece_90 : decode cX0_piece 90 = .ok (.ireturn, 1) := by decide +kernel
theorem dX0_seek_0 : decode cX0_seek 0 = .ok (.iload_n 1, 1) := by decide +kernel
theorem dX0_seek_1 : decode cX0_seek 1 = .ok (.invokestatic 32, 3) := by decide +kernel
theorem dX0_seek_4 : decode cX0_seek 4 = .ok (.ifCond .ne 5, 3) := by decide +kernel
theorem dX0_seek_7 : decode cX0_seek 7 = .ok (.iconst (-1), 1) := by decide +kernel
theorem dX0_seek_8 : decode cX0_seek 8 = .ok (.ireturn, 1) := by decide +kernel
theorem dX0_seek_9 : decode cX0_seek 9 = .ok (.iload_n 2, 1) := by decide +kernel
theorem dX0_seek_10 : decode cX0_seek 10 = .ok (.ifCond .lt 9, 3) := by decide +kernel
theorem dX0_seek_13 : decode cX0_seek 13 = .ok (.iload_n 2, 1) := by decide +kernel
theorem dX0_seek_14 : decode cX0_seek 14 = .ok (.bipush 96, 2) := by decide +kernel
theorem dX0_seek_16 : decode cX0_seek 16 = .ok (.if_icmp .le 6, 3) := by decide +kernel
theorem dX0_seek_19 : decode cX0_seek 19 = .ok (.bipush (-2), 2) := by decide +kernel
theorem dX0_seek_21 : decode cX0_seek 21 = .ok (.ireturn, 1) := by decide +kernel
theorem dX0_seek_22 : decode cX0_seek 22 = .ok (.iload_n 2, 1) := by decide +kernel
theorem dX0_seek_23 : decode cX0_seek 23 = .ok (.istore 4, 2) := by decide +kernel
theorem dX0_seek_25 : decode cX0_seek 25 = .ok (.iload 4, 2) := by decide +kernel
theorem dX0_seek_27 : decode cX0_seek 27 = .ok (.aload_n 0, 1) := by decide +kernel
theorem dX0_seek_28 : decode cX0_seek 28 = .ok (.iload_n 1, 1) := by decide +kernel
theorem dX0_seek_29 : decode cX0_seek 29 = .ok (.invokevirtual 36, 3) := by decide +kernel
theorem dX0_seek_32 : decode cX0_seek 32 = .ok (.if_icmp .ge 28, 3) := by decide +kernel
theorem dX0_seek_35 : decode cX0_seek 35 = .ok (.aload_n 0, 1) := by decide +kernel
theorem dX0_seek_36 : decode cX0_seek 36 = .ok (.iload_n 1, 1) := by decide +kernel
theorem dX0_seek_37 : decode cX0_seek 37 = .ok (.iload 4, 2) := by decide +kernel
theorem dX0_seek_39 : decode cX0_seek 39 = .ok (.iconst 4, 1) := by decide +kernel
theorem dX0_seek_40 : decode cX0_seek 40 = .ok (.idiv, 1) := by decide +kernel
theorem dX0_seek_41 : decode cX0_seek 41 = .ok (.invokevirtual 40, 3) := by decide +kernel
theorem dX0_seek_44 : decode cX0_seek 44 = .ok (.invokestatic 136, 3) := by decide +kernel
theorem dX0_seek_47 : decode cX0_seek 47 = .ok (.iload_n 3, 1) := by decide +kernel
theorem dX0_seek_48 : decode cX0_seek 48 = .ok (.if_icmp .ne 6, 3) := by decide +kernel
theorem dX0_seek_51 : decode cX0_seek 51 = .ok (.iload 4, 2) := by decide +kernel
theorem dX0_seek_53 : decode cX0_seek 53 = .ok (.ireturn, 1) := by decide +kernel
theorem dX0_seek_54 : decode cX0_seek 54 = .ok (.iinc 4 1, 3) := by decide +kernel
theorem dX0_seek_57 : decode cX0_seek 57 = .ok (.goto (-32), 3) := by decide +kernel
theorem dX0_seek_60 : decode cX0_seek 60 = .ok (.iload_n 3, 1) := by decide +kernel
theorem dX0_seek_61 : decode cX0_seek 61 = .ok (.ifCond .eq 8, 3) := by decide +kernel
theorem dX0_seek_64 : decode cX0_seek 64 = .ok (.bipush (-9), 2) := by decide +kernel
theorem dX0_seek_66 : decode cX0_seek 66 = .ok (.goto 12, 3) := by decide +kernel
theorem dX0_seek_69 : decode cX0_seek 69 = .ok (.aload_n 0, 1) := by decide +kernel
theorem dX0_seek_70 : decode cX0_seek 70 = .ok (.iload_n 1, 1) := by decide +kernel
theorem dX0_seek_71 : decode cX0_seek 71 = .ok (.invokevirtual 36, 3) := by decide +kernel
theorem dX0_seek_74 : decode cX0_seek 74 = .ok (.iload_n 2, 1) := by decide +kernel
theorem dX0_seek_75 : decode cX0_seek 75 = .ok (.invokestatic 139, 3) := by decide +kernel
theorem dX0_seek_78 : decode cX0_seek 78 = .ok (.ireturn, 1) := by decide +kernel
theorem dX0_count_0 : decode cX0_count 0 = .ok (.iload_n 1, 1) := by decide +kernel
theorem dX0_count_1 : decode cX0_count 1 = .ok (.invokestatic 136, 3) := by decide +kernel
theorem dX0_count_4 : decode cX0_count 4 = .ok (.ifCond .eq 11, 3) := by decide +kernel
theorem dX0_count_7 : decode cX0_count 7 = .ok (.aload_n 0, 1) := by decide +kernel
theorem dX0_count_8 : decode cX0_count 8 = .ok (.iload_n 1, 1) := by decide +kernel
theorem dX0_count_9 : decode cX0_count 9 = .ok (.invokevirtual 142, 3) := by decide +kernel
theorem dX0_count_12 : decode cX0_count 12 = .ok (.goto 5, 3) := by decide +kernel
theorem dX0_count_15 : decode cX0_count 15 = .ok (.bipush (-2), 2) := by decide +kernel
theorem dX0_count_17 : decode cX0_count 17 = .ok (.ireturn, 1) := by decide +kernel
theorem dX0_range_0 : decode cX0_range 0 = .ok (.iload_n 1, 1) := by decide +kernel
theorem dX0_range_1 : decode cX0_range 1 = .ok (.ifCond .lt 18, 3) := by decide +kernel
theorem dX0_range_4 : decode cX0_range 4 = .ok (.iload_n 1, 1) := by decide +kernel
theorem dX0_range_5 : decode cX0_range 5 = .ok (.bipush 48, 2) := by decide +kernel
theorem dX0_range_7 : decode cX0_range 7 = .ok (.if_icmp .ge 12, 3) := by decide +kernel
theorem dX0_range_10 : decode cX0_range 10 = .ok (.iload_n 2, 1) := by decide +kernel
theorem dX0_range_11 : decode cX0_range 11 = .ok (.ifCond .lt 8, 3) := by decide +kernel
theorem dX0_range_14 : decode cX0_range 14 = .ok (.iload_n 2, 1) := by decide +kernel
theorem dX0_range_15 : decode cX0_range 15 = .ok (.iconst 4, 1) := by decide +kernel
theorem dX0_range_16 : decode cX0_range 16 = .ok (.if_icmp .le 6, 3) := by decide +kernel
theorem dX0_range_19 : decode cX0_range 19 = .ok (.bipush (-2), 2) := by decide +kernel
theorem dX0_range_21 : decode cX0_range 21 = .ok (.ireturn, 1) := by decide +kernel
theorem dX0_range_22 : decode cX0_range 22 = .ok (.aload_n 0, 1) := by decide +kernel
theorem dX0_range_23 : decode cX0_range 23 = .ok (.iload_n 1, 1) := by decide +kernel
theorem dX0_range_24 : decode cX0_range 24 = .ok (.iload_n 2, 1) := by decide +kernel
theorem dX0_range_25 : decode cX0_range 25 = .ok (.iconst 2, 1) := by decide +kernel
theorem dX0_range_26 : decode cX0_range 26 = .ok (.if_icmp .ge 7, 3) := by decide +kernel
theorem dX0_range_29 : decode cX0_range 29 = .ok (.iconst 1, 1) := by decide +kernel
theorem dX0_range_30 : decode cX0_range 30 = .ok (.goto 4, 3) := by decide +kernel
theorem dX0_range_33 : decode cX0_range 33 = .ok (.iconst 0, 1) := by decide +kernel
theorem dX0_range_34 : decode cX0_range 34 = .ok (.invokevirtual 145, 3) := by decide +kernel
theorem dX0_range_37 : decode cX0_range 37 = .ok (.istore_n 3, 1) := by decide +kernel
theorem dX0_range_38 : decode cX0_range 38 = .ok (.iload_n 3, 1) := by decide +kernel
theorem dX0_range_39 : decode cX0_range 39 = .ok (.bipush (-9), 2) := by decide +kernel
theorem dX0_range_41 : decode cX0_range 41 = .ok (.if_icmp .ne 6, 3) := by decide +kernel
theorem dX0_range_44 : decode cX0_range 44 = .ok (.bipush (-9), 2) := by decide +kernel
theorem dX0_range_46 : decode cX0_range 46 = .ok (.ireturn, 1) := by decide +kernel
theorem dX0_range_47 : decode cX0_range 47 = .ok (.iload_n 2, 1) := by decide +kernel
theorem dX0_range_48 : decode cX0_range 48 = .ok (.tableswitch 40 0 3 #[32, 34, 32, 34], 32) := by decide +kernel
theorem dX0_range_80 : decode cX0_range 80 = .ok (.iload_n 3, 1) := by decide +kernel
theorem dX0_range_81 : decode cX0_range 81 = .ok (.ireturn, 1) := by decide +kernel
theorem dX0_range_82 : decode cX0_range 82 = .ok (.aload_n 0, 1) := by decide +kernel
theorem dX0_range_83 : decode cX0_range 83 = .ok (.iload_n 3, 1) := by decide +kernel
theorem dX0_range_84 : decode cX0_range 84 = .ok (.invokevirtual 149, 3) := by decide +kernel
theorem dX0_range_87 : decode cX0_range 87 = .ok (.ireturn, 1) := by decide +kernel
theorem dX0_range_88 : decode cX0_range 88 = .ok (.aload_n 0, 1) := by decide +kernel
theorem dX0_range_89 : decode cX0_range 89 = .ok (.iload_n 3, 1) := by decide +kernel
theorem dX0_range_90 : decode cX0_range 90 = .ok (.invokevirtual 142, 3) := by decide +kernel
theorem dX0_range_93 : decode cX0_range 93 = .ok (.ireturn, 1) := by decide +kernel
theorem dX0_many_0 : decode cX0_many 0 = .ok (.iload_n 1, 1) := by decide +kernel
theorem dX0_many_1 : decode cX0_many 1 = .ok (.tableswitch 95 0 5 #[39, 44, 49, 55, 61, 74], 39) := by decide +kernel
theorem dX0_many_40 : decode cX0_many 40 = .ok (.aload_n 0, 1) := by decide +kernel
theorem dX0_many_41 : decode cX0_many 41 = .ok (.invokevirtual 152, 3) := by decide +kernel
theorem dX0_many_44 : decode cX0_many 44 = .ok (.ireturn, 1) := by decide +kernel
theorem dX0_many_45 : decode cX0_many 45 = .ok (.aload_n 0, 1) := by decide +kernel
theorem dX0_many_46 : decode cX0_many 46 = .ok (.invokevirtual 156, 3) := by decide +kernel
theorem dX0_many_49 : decode cX0_many 49 = .ok (.ireturn, 1) := by decide +kernel
theorem dX0_many_50 : decode cX0_many 50 = .ok (.aload_n 0, 1) := by decide +kernel
theorem dX0_many_51 : decode cX0_many 51 = .ok (.iconst 1, 1) := by decide +kernel
theorem dX0_many_52 : decode cX0_many 52 = .ok (.invokevirtual 159, 3) := by decide +kernel
theorem dX0_many_55 : decode cX0_many 55 = .ok (.ireturn, 1) := by decide +kernel
theorem dX0_many_56 : decode cX0_many 56 = .ok (.aload_n 0, 1) := by decide +kernel
theorem dX0_many_57 : decode cX0_many 57 = .ok (.iconst 0, 1) := by decide +kernel
theorem dX0_many_58 : decode cX0_many 58 = .ok (.invokevirtual 159, 3) := by decide +kernel
theorem dX0_many_61 : decode cX0_many 61 = .ok (.ireturn, 1) := by decide +kernel
theorem dX0_many_62 : decode cX0_many 62 = .ok (.aload_n 0, 1) := by decide +kernel
theorem dX0_many_63 : decode cX0_many 63 = .ok (.getfield 51, 3) := by decide +kernel
theorem dX0_many_66 : decode cX0_many 66 = .ok (.ifCond .eq 7, 3) := by decide +kernel
theorem dX0_many_69 : decode cX0_many 69 = .ok (.iconst 1, 1) := by decide +kernel
theorem dX0_many_70 : decode cX0_many 70 = .ok (.goto 4, 3) := by decide +kernel
theorem dX0_many_73 : decode cX0_many 73 = .ok (.iconst 0, 1) := by decide +kernel
theorem dX0_many_74 : decode cX0_many 74 = .ok (.ireturn, 1) := by decide +kernel
theorem dX0_many_75 : decode cX0_many 75 = .ok (.aload_n 0, 1) := by decide +kernel
theorem dX0_many_76 : decode cX0_many 76 = .ok (.getfield 51, 3) := by decide +kernel
theorem dX0_many_79 : decode cX0_many 79 = .ok (.ifCond .eq 15, 3) := by decide +kernel
theorem dX0_many_82 : decode cX0_many 82 = .ok (.aload_n 0, 1) := by decide +kernel
theorem dX0_many_83 : decode cX0_many 83 = .ok (.getfield 121, 3) := by decide +kernel
theorem dX0_many_86 : decode cX0_many 86 = .ok (.aload_n 0, 1) := by decide +kernel
theorem dX0_many_87 : decode cX0_many 87 = .ok (.getfield 115, 3) := by decide +kernel
theorem dX0_many_90 : decode cX0_many 90 = .ok (.isub, 1) := by decide +kernel
theorem dX0_many_91 : decode cX0_many 91 = .ok (.goto 4, 3) := by decide +kernel
theorem dX0_many_94 : decode cX0_many 94 = .ok (.iconst 0, 1) := by decide +kernel
theorem dX0_many_95 : decode cX0_many 95 = .ok (.ireturn, 1) := by decide +kernel
theorem dX0_many_96 : decode cX0_many 96 = .ok (.bipush (-2), 2) := by decide +kernel
theorem dX0_many_98 : decode cX0_many 98 = .ok (.ireturn, 1) := by decide +kernel
theorem dX0_isFile_0 : decode cX0_isFile 0 = .ok (.iload_n 0, 1) := by decide +kernel
theorem dX0_isFile_1 : decode cX0_isFile 1 = .ok (.ifCond .lt 12, 3) := by decide +kernel
theorem dX0_isFile_4 : decode cX0_isFile 4 = .ok (.iload_n 0, 1) := by decide +kernel
theorem dX0_isFile_5 : decode cX0_isFile 5 = .ok (.iconst 4, 1) := by decide +kernel
theorem dX0_isFile_6 : decode cX0_isFile 6 = .ok (.if_icmp .ge 7, 3) := by decide +kernel
theorem dX0_isFile_9 : decode cX0_isFile 9 = .ok (.iconst 1, 1) := by decide +kernel
theorem dX0_isFile_10 : decode cX0_isFile 10 = .ok (.goto 4, 3) := by decide +kernel
theorem dX0_isFile_13 : decode cX0_isFile 13 = .ok (.iconst 0, 1) := by decide +kernel
theorem dX0_isFile_14 : decode cX0_isFile 14 = .ok (.ireturn, 1) := by decide +kernel
theorem dX0_isPlace_0 : decode cX0_isPlace 0 = .ok (.iload_n 0, 1) := by decide +kernel
theorem dX0_isPlace_1 : decode cX0_isPlace 1 = .ok (.ifCond .lt 13, 3) := by decide +kernel
theorem dX0_isPlace_4 : decode cX0_isPlace 4 = .ok (.iload_n 0, 1) := by decide +kernel
theorem dX0_isPlace_5 : decode cX0_isPlace 5 = .ok (.bipush 24, 2) := by decide +kernel
theorem dX0_isPlace_7 : decode cX0_isPlace 7 = .ok (.if_icmp .ge 7, 3) := by decide +kernel
theorem dX0_isPlace_10 : decode cX0_isPlace 10 = .ok (.iconst 1, 1) := by decide +kernel
theorem dX0_isPlace_11 : decode cX0_isPlace 11 = .ok (.goto 4, 3) := by decide +kernel
theorem dX0_isPlace_14 : decode cX0_isPlace 14 = .ok (.iconst 0, 1) := by decide +kernel
theorem dX0_isPlace_15 : decode cX0_isPlace 15 = .ok (.ireturn, 1) := by decide +kernel
theorem dX0_isBlock_0 : decode cX0_isBlock 0 = .ok (.iload_n 0, 1) := by decide +kernel
theorem dX0_isBlock_1 : decode cX0_isBlock 1 = .ok (.ifCond .lt 13, 3) := by decide +kernel
theorem dX0_isBlock_4 : decode cX0_isBlock 4 = .ok (.iload_n 0, 1) := by decide +kernel
theorem dX0_isBlock_5 : decode cX0_isBlock 5 = .ok (.bipush 48, 2) := by decide +kernel
theorem dX0_isBlock_7 : decode cX0_isBlock 7 = .ok (.if_icmp .ge 7, 3) := by decide +kernel
theorem dX0_isBlock_10 : decode cX0_isBlock 10 = .ok (.iconst 1, 1) := by decide +kernel
theorem dX0_isBlock_11 : decode cX0_isBlock 11 = .ok (.goto 4, 3) := by decide +kernel
theorem dX0_isBlock_14 : decode cX0_isBlock 14 = .ok (.iconst 0, 1) := by decide +kernel
theorem dX0_isBlock_15 : decode cX0_isBlock 15 = .ok (.ireturn, 1) := by decide +kernel
theorem dX0_isCellRange_0 : decode cX0_isCellRange 0 = .ok (.iload_n 0, 1) := by decide +kernel
theorem dX0_isCellRange_1 : decode cX0_isCellRange 1 = .ok (.ifCond .lt 26, 3) := by decide +kernel
theorem dX0_isCellRange_4 : decode cX0_isCellRange 4 = .ok (.iload_n 0, 1) := by decide +kernel
theorem dX0_isCellRange_5 : decode cX0_isCellRange 5 = .ok (.bipush 96, 2) := by decide +kernel
theorem dX0_isCellRange_7 : decode cX0_isCellRange 7 = .ok (.if_icmp .ge 20, 3) := by decide +kernel
theorem dX0_isCellRange_10 : decode cX0_isCellRange 10 = .ok (.iload_n 1, 1) := by decide +kernel
theorem dX0_isCellRange_11 : decode cX0_isCellRange 11 = .ok (.iconst 1, 1) := by decide +kernel
theorem dX0_isCellRange_12 : decode cX0_isCellRange 12 = .ok (.if_icmp .lt 15, 3) := by decide +kernel
theorem dX0_isCellRange_15 : decode cX0_isCellRange 15 = .ok (.iload_n 1, 1) := by decide +kernel
theorem dX0_isCellRange_16 : decode cX0_isCellRange 16 = .ok (.bipush 96, 2) := by decide +kernel
theorem dX0_isCellRange_18 : decode cX0_isCellRange 18 = .ok (.iload_n 0, 1) := by decide +kernel
theorem dX0_isCellRange_19 : decode cX0_isCellRange 19 = .ok (.isub, 1) := by decide +kernel
theorem dX0_isCellRange_20 : decode cX0_isCellRange 20 = .ok (.if_icmp .gt 7, 3) := by decide +kernel
theorem dX0_isCellRange_23 : decode cX0_isCellRange 23 = .ok (.iconst 1, 1) := by decide +kernel
theorem dX0_isCellRange_24 : decode cX0_isCellRange 24 = .ok (.goto 4, 3) := by decide +kernel
theorem dX0_isCellRange_27 : decode cX0_isCellRange 27 = .ok (.iconst 0, 1) := by decide +kernel
theorem dX0_isCellRange_28 : decode cX0_isCellRange 28 = .ok (.ireturn, 1) := by decide +kernel
theorem dX0_isPlaceRange_0 : decode cX0_isPlaceRange 0 = .ok (.iload_n 0, 1) := by decide +kernel
theorem dX0_isPlaceRange_1 : decode cX0_isPlaceRange 1 = .ok (.invokestatic 97, 3) := by decide +kernel
theorem dX0_isPlaceRange_4 : decode cX0_isPlaceRange 4 = .ok (.ifCond .eq 20, 3) := by decide +kernel
theorem dX0_isPlaceRange_7 : decode cX0_isPlaceRange 7 = .ok (.iload_n 1, 1) := by decide +kernel
theorem dX0_isPlaceRange_8 : decode cX0_isPlaceRange 8 = .ok (.iconst 1, 1) := by decide +kernel
theorem dX0_isPlaceRange_9 : decode cX0_isPlaceRange 9 = .ok (.if_icmp .lt 15, 3) := by decide +kernel
theorem dX0_isPlaceRange_12 : decode cX0_isPlaceRange 12 = .ok (.iload_n 1, 1) := by decide +kernel
theorem dX0_isPlaceRange_13 : decode cX0_isPlaceRange 13 = .ok (.bipush 24, 2) := by decide +kernel
theorem dX0_isPlaceRange_15 : decode cX0_isPlaceRange 15 = .ok (.iload_n 0, 1) := by decide +kernel
theorem dX0_isPlaceRange_16 : decode cX0_isPlaceRange 16 = .ok (.isub, 1) := by decide +kernel
theorem dX0_isPlaceRange_17 : decode cX0_isPlaceRange 17 = .ok (.if_icmp .gt 7, 3) := by decide +kernel
theorem dX0_isPlaceRange_20 : decode cX0_isPlaceRange 20 = .ok (.iconst 1, 1) := by decide +kernel
theorem dX0_isPlaceRange_21 : decode cX0_isPlaceRange 21 = .ok (.goto 4, 3) := by decide +kernel
theorem dX0_isPlaceRange_24 : decode cX0_isPlaceRange 24 = .ok (.iconst 0, 1) := by decide +kernel
theorem dX0_isPlaceRange_25 : decode cX0_isPlaceRange 25 = .ok (.ireturn, 1) := by decide +kernel
theorem dX0_meet_0 : decode cX0_meet 0 = .ok (.iload_n 0, 1) := by decide +kernel
theorem dX0_meet_1 : decode cX0_meet 1 = .ok (.iload_n 2, 1) := by decide +kernel
theorem dX0_meet_2 : decode cX0_meet 2 = .ok (.if_icmp .ne 23, 3) := by decide +kernel
theorem dX0_meet_5 : decode cX0_meet 5 = .ok (.iload_n 1, 1) := by decide +kernel
theorem dX0_meet_6 : decode cX0_meet 6 = .ok (.iload_n 3, 1) := by decide +kernel
theorem dX0_meet_7 : decode cX0_meet 7 = .ok (.iload 4, 2) := by decide +kernel
theorem dX0_meet_9 : decode cX0_meet 9 = .ok (.iadd, 1) := by decide +kernel
theorem dX0_meet_10 : decode cX0_meet 10 = .ok (.if_icmp .ge 15, 3) := by decide +kernel
theorem dX0_meet_13 : decode cX0_meet 13 = .ok (.iload_n 3, 1) := by decide +kernel
theorem dX0_meet_14 : decode cX0_meet 14 = .ok (.iload_n 1, 1) := by decide +kernel
theorem dX0_meet_15 : decode cX0_meet 15 = .ok (.iload 4, 2) := by decide +kernel
theorem dX0_meet_17 : decode cX0_meet 17 = .ok (.iadd, 1) := by decide +kernel
theorem dX0_meet_18 : decode cX0_meet 18 = .ok (.if_icmp .ge 7, 3) := by decide +kernel
theorem dX0_meet_21 : decode cX0_meet 21 = .ok (.iconst 1, 1) := by decide +kernel
theorem dX0_meet_22 : decode cX0_meet 22 = .ok (.goto 4, 3) := by decide +kernel
theorem dX0_meet_25 : decode cX0_meet 25 = .ok (.iconst 0, 1) := by decide +kernel
theorem dX0_meet_26 : decode cX0_meet 26 = .ok (.ireturn, 1) := by decide +kernel
theorem dX0_isBelowSize_0 : decode cX0_isBelowSize 0 = .ok (.iload_n 2, 1) := by decide +kernel
theorem dX0_isBelowSize_1 : decode cX0_isBelowSize 1 = .ok (.iload_n 3, 1) := by decide +kernel
theorem dX0_isBelowSize_2 : decode cX0_isBelowSize 2 = .ok (.iadd, 1) := by decide +kernel
theorem dX0_isBelowSize_3 : decode cX0_isBelowSize 3 = .ok (.iconst 4, 1) := by decide +kernel
theorem dX0_isBelowSize_4 : decode cX0_isBelowSize 4 = .ok (.imul, 1) := by decide +kernel
theorem dX0_isBelowSize_5 : decode cX0_isBelowSize 5 = .ok (.aload_n 0, 1) := by decide +kernel
theorem dX0_isBelowSize_6 : decode cX0_isBelowSize 6 = .ok (.iload_n 1, 1) := by decide +kernel
theorem dX0_isBelowSize_7 : decode cX0_isBelowSize 7 = .ok (.invokevirtual 36, 3) := by decide +kernel
theorem dX0_isBelowSize_10 : decode cX0_isBelowSize 10 = .ok (.if_icmp .gt 7, 3) := by decide +kernel
theorem dX0_isBelowSize_13 : decode cX0_isBelowSize 13 = .ok (.iconst 1, 1) := by decide +kernel
theorem dX0_isBelowSize_14 : decode cX0_isBelowSize 14 = .ok (.goto 4, 3) := by decide +kernel
theorem dX0_isBelowSize_17 : decode cX0_isBelowSize 17 = .ok (.iconst 0, 1) := by decide +kernel
theorem dX0_isBelowSize_18 : decode cX0_isBelowSize 18 = .ok (.ireturn, 1) := by decide +kernel
theorem dX0_sizeOf_0 : decode cX0_sizeOf 0 = .ok (.iload_n 1, 1) := by decide +kernel
theorem dX0_sizeOf_1 : decode cX0_sizeOf 1 = .ok (.invokestatic 32, 3) := by decide +kernel
theorem dX0_sizeOf_4 : decode cX0_sizeOf 4 = .ok (.ifCond .eq 12, 3) := by decide +kernel
theorem dX0_sizeOf_7 : decode cX0_sizeOf 7 = .ok (.aload_n 0, 1) := by decide +kernel
theorem dX0_sizeOf_8 : decode cX0_sizeOf 8 = .ok (.getfield 19, 3) := by decide +kernel
theorem dX0_sizeOf_11 : decode cX0_sizeOf 11 = .ok (.iload_n 1, 1) := by decide +kernel
theorem dX0_sizeOf_12 : decode cX0_sizeOf 12 = .ok (.iaload, 1) := by decide +kernel
theorem dX0_sizeOf_13 : decode cX0_sizeOf 13 = .ok (.goto 4, 3) := by decide +kernel
theorem dX0_sizeOf_16 : decode cX0_sizeOf 16 = .ok (.iconst 0, 1) := by decide +kernel
theorem dX0_sizeOf_17 : decode cX0_sizeOf 17 = .ok (.ireturn, 1) := by decide +kernel
theorem dX0_setSize_0 : decode cX0_setSize 0 = .ok (.iload_n 1, 1) := by decide +kernel
theorem dX0_setSize_1 : decode cX0_setSize 1 = .ok (.invokestatic 32, 3) := by decide +kernel
theorem dX0_setSize_4 : decode cX0_setSize 4 = .ok (.ifCond .eq 10, 3) := by decide +kernel
theorem dX0_setSize_7 : decode cX0_setSize 7 = .ok (.aload_n 0, 1) := by decide +kernel
theorem dX0_setSize_8 : decode cX0_setSize 8 = .ok (.getfield 19, 3) := by decide +kernel
theorem dX0_setSize_11 : decode cX0_setSize 11 = .ok (.iload_n 1, 1) := by decide +kernel
theorem dX0_setSize_12 : decode cX0_setSize 12 = .ok (.iload_n 2, 1) := by decide +kernel
theorem dX0_setSize_13 : decode cX0_setSize 13 = .ok (.iastore, 1) := by decide +kernel
theorem dX0_setSize_14 : decode cX0_setSize 14 = .ok (.return_, 1) := by decide +kernel
theorem dX0_growTo_0 : decode cX0_growTo 0 = .ok (.aload_n 0, 1) := by decide +kernel
theorem dX0_growTo_1 : decode cX0_growTo 1 = .ok (.iload_n 1, 1) := by decide +kernel
theorem dX0_growTo_2 : decode cX0_growTo 2 = .ok (.aload_n 0, 1) := by decide +kernel
theorem dX0_growTo_3 : decode cX0_growTo 3 = .ok (.iload_n 1, 1) := by decide +kernel
theorem dX0_growTo_4 : decode cX0_growTo 4 = .ok (.invokevirtual 36, 3) := by decide +kernel
theorem dX0_growTo_7 : decode cX0_growTo 7 = .ok (.iload_n 2, 1) := by decide +kernel
theorem dX0_growTo_8 : decode cX0_growTo 8 = .ok (.invokestatic 139, 3) := by decide +kernel
theorem dX0_growTo_11 : decode cX0_growTo 11 = .ok (.invokevirtual 83, 3) := by decide +kernel
theorem dX0_growTo_14 : decode cX0_growTo 14 = .ok (.return_, 1) := by decide +kernel
theorem dX0_blockAt_0 : decode cX0_blockAt 0 = .ok (.iload_n 1, 1) := by decide +kernel
theorem dX0_blockAt_1 : decode cX0_blockAt 1 = .ok (.invokestatic 32, 3) := by decide +kernel
theorem dX0_blockAt_4 : decode cX0_blockAt 4 = .ok (.ifCond .eq 24, 3) := by decide +kernel
theorem dX0_blockAt_7 : decode cX0_blockAt 7 = .ok (.iload_n 2, 1) := by decide +kernel
theorem dX0_blockAt_8 : decode cX0_blockAt 8 = .ok (.invokestatic 97, 3) := by decide +kernel
theorem dX0_blockAt_11 : decode cX0_blockAt 11 = .ok (.ifCond .eq 17, 3) := by decide +kernel
theorem dX0_blockAt_14 : decode cX0_blockAt 14 = .ok (.aload_n 0, 1) := by decide +kernel
theorem dX0_blockAt_15 : decode cX0_blockAt 15 = .ok (.getfield 16, 3) := by decide +kernel
theorem dX0_blockAt_18 : decode cX0_blockAt 18 = .ok (.iload_n 1, 1) := by decide +kernel
theorem dX0_blockAt_19 : decode cX0_blockAt 19 = .ok (.bipush 24, 2) := by decide +kernel
theorem dX0_blockAt_21 : decode cX0_blockAt 21 = .ok (.imul, 1) := by decide +kernel
theorem dX0_blockAt_22 : decode cX0_blockAt 22 = .ok (.iload_n 2, 1) := by decide +kernel
theorem dX0_blockAt_23 : decode cX0_blockAt 23 = .ok (.iadd, 1) := by decide +kernel
theorem dX0_blockAt_24 : decode cX0_blockAt 24 = .ok (.iaload, 1) := by decide +kernel
theorem dX0_blockAt_25 : decode cX0_blockAt 25 = .ok (.goto 5, 3) := by decide +kernel
theorem dX0_blockAt_28 : decode cX0_blockAt 28 = .ok (.bipush (-9), 2) := by decide +kernel
theorem dX0_blockAt_30 : decode cX0_blockAt 30 = .ok (.ireturn, 1) := by decide +kernel
theorem dX0_putBlock_0 : decode cX0_putBlock 0 = .ok (.iload_n 1, 1) := by decide +kernel
theorem dX0_putBlock_1 : decode cX0_putBlock 1 = .ok (.invokestatic 32, 3) := by decide +kernel
theorem dX0_putBlock_4 : decode cX0_putBlock 4 = .ok (.ifCond .eq 39, 3) := by decide +kernel
theorem dX0_putBlock_7 : decode cX0_putBlock 7 = .ok (.iload_n 2, 1) := by decide +kernel
theorem dX0_putBlock_8 : decode cX0_putBlock 8 = .ok (.invokestatic 97, 3) := by decide +kernel
theorem dX0_putBlock_11 : decode cX0_putBlock 11 = .ok (.ifCond .eq 32, 3) := by decide +kernel
theorem dX0_putBlock_14 : decode cX0_putBlock 14 = .ok (.aload_n 0, 1) := by decide +kernel
theorem dX0_putBlock_15 : decode cX0_putBlock 15 = .ok (.aload_n 0, 1) := by decide +kernel
theorem dX0_putBlock_16 : decode cX0_putBlock 16 = .ok (.iload_n 1, 1) := by decide +kernel
theorem dX0_putBlock_17 : decode cX0_putBlock 17 = .ok (.iload_n 2, 1) := by decide +kernel
theorem dX0_putBlock_18 : decode cX0_putBlock 18 = .ok (.invokevirtual 40, 3) := by decide +kernel
theorem dX0_putBlock_21 : decode cX0_putBlock 21 = .ok (.iconst (-1), 1) := by decide +kernel
theorem dX0_putBlock_22 : decode cX0_putBlock 22 = .ok (.invokevirtual 163, 3) := by decide +kernel
theorem dX0_putBlock_25 : decode cX0_putBlock 25 = .ok (.aload_n 0, 1) := by decide +kernel
theorem dX0_putBlock_26 : decode cX0_putBlock 26 = .ok (.iload_n 3, 1) := by decide +kernel
theorem dX0_putBlock_27 : decode cX0_putBlock 27 = .ok (.iconst 1, 1) := by decide +kernel
theorem dX0_putBlock_28 : decode cX0_putBlock 28 = .ok (.invokevirtual 163, 3) := by decide +kernel
theorem dX0_putBlock_31 : decode cX0_putBlock 31 = .ok (.aload_n 0, 1) := by decide +kernel
theorem dX0_putBlock_32 : decode cX0_putBlock 32 = .ok (.getfield 16, 3) := by decide +kernel
theorem dX0_putBlock_35 : decode cX0_putBlock 35 = .ok (.iload_n 1, 1) := by decide +kernel
theorem dX0_putBlock_36 : decode cX0_putBlock 36 = .ok (.bipush 24, 2) := by decide +kernel
theorem dX0_putBlock_38 : decode cX0_putBlock 38 = .ok (.imul, 1) := by decide +kernel
theorem dX0_putBlock_39 : decode cX0_putBlock 39 = .ok (.iload_n 2, 1) := by decide +kernel
theorem dX0_putBlock_40 : decode cX0_putBlock 40 = .ok (.iadd, 1) := by decide +kernel
theorem dX0_putBlock_41 : decode cX0_putBlock 41 = .ok (.iload_n 3, 1) := by decide +kernel
theorem dX0_putBlock_42 : decode cX0_putBlock 42 = .ok (.iastore, 1) := by decide +kernel
theorem dX0_putBlock_43 : decode cX0_putBlock 43 = .ok (.return_, 1) := by decide +kernel
theorem dX0_placesCountedFrom_0 : decode cX0_placesCountedFrom 0 = .ok (.iconst 0, 1) := by decide +kernel
theorem dX0_placesCountedFrom_1 : decode cX0_placesCountedFrom 1 = .ok (.istore_n 3, 1) := by decide +kernel
theorem dX0_placesCountedFrom_2 : decode cX0_placesCountedFrom 2 = .ok (.iconst 0, 1) := by decide +kernel
theorem dX0_placesCountedFrom_3 : decode cX0_placesCountedFrom 3 = .ok (.istore 4, 2) := by decide +kernel
theorem dX0_placesCountedFrom_5 : decode cX0_placesCountedFrom 5 = .ok (.iload 4, 2) := by decide +kernel
theorem dX0_placesCountedFrom_7 : decode cX0_placesCountedFrom 7 = .ok (.bipush 24, 2) := by decide +kernel
theorem dX0_placesCountedFrom_9 : decode cX0_placesCountedFrom 9 = .ok (.if_icmp .ge 27, 3) := by decide +kernel
theorem dX0_placesCountedFrom_12 : decode cX0_placesCountedFrom 12 = .ok (.aload_n 0, 1) := by decide +kernel
theorem dX0_placesCountedFrom_13 : decode cX0_placesCountedFrom 13 = .ok (.aload_n 0, 1) := by decide +kernel
theorem dX0_placesCountedFrom_14 : decode cX0_placesCountedFrom 14 = .ok (.iload_n 1, 1) := by decide +kernel
theorem dX0_placesCountedFrom_15 : decode cX0_placesCountedFrom 15 = .ok (.iload 4, 2) := by decide +kernel
theorem dX0_placesCountedFrom_17 : decode cX0_placesCountedFrom 17 = .ok (.invokevirtual 40, 3) := by decide +kernel
theorem dX0_placesCountedFrom_20 : decode cX0_placesCountedFrom 20 = .ok (.invokevirtual 142, 3) := by decide +kernel
theorem dX0_placesCountedFrom_23 : decode cX0_placesCountedFrom 23 = .ok (.iload_n 2, 1) := by decide +kernel
theorem dX0_placesCountedFrom_24 : decode cX0_placesCountedFrom 24 = .ok (.if_icmp .lt 6, 3) := by decide +kernel
theorem dX0_placesCountedFrom_27 : decode cX0_placesCountedFrom 27 = .ok (.iinc 3 1, 3) := by decide +kernel
theorem dX0_placesCountedFrom_30 : decode cX0_placesCountedFrom 30 = .ok (.iinc 4 1, 3) := by decide +kernel
theorem dX0_placesCountedFrom_33 : decode cX0_placesCountedFrom 33 = .ok (.goto (-28), 3) := by decide +kernel
theorem dX0_placesCountedFrom_36 : decode cX0_placesCountedFrom 36 = .ok (.iload_n 3, 1) := by decide +kernel
theorem dX0_placesCountedFrom_37 : decode cX0_placesCountedFrom 37 = .ok (.ireturn, 1) := by decide +kernel
theorem dX0_startsPiece_0 : decode cX0_startsPiece 0 = .ok (.aload_n 0, 1) := by decide +kernel
theorem dX0_startsPiece_1 : decode cX0_startsPiece 1 = .ok (.iload_n 1, 1) := by decide +kernel
theorem dX0_startsPiece_2 : decode cX0_startsPiece 2 = .ok (.iload_n 2, 1) := by decide +kernel
theorem dX0_startsPiece_3 : decode cX0_startsPiece 3 = .ok (.invokevirtual 40, 3) := by decide +kernel
theorem dX0_startsPiece_6 : decode cX0_startsPiece 6 = .ok (.invokestatic 136, 3) := by decide +kernel
theorem dX0_startsPiece_9 : decode cX0_startsPiece 9 = .ok (.ifCond .eq 18, 3) := by decide +kernel
theorem dX0_startsPiece_12 : decode cX0_startsPiece 12 = .ok (.aload_n 0, 1) := by decide +kernel
theorem dX0_startsPiece_13 : decode cX0_startsPiece 13 = .ok (.iload_n 1, 1) := by decide +kernel
theorem dX0_startsPiece_14 : decode cX0_startsPiece 14 = .ok (.iload_n 2, 1) := by decide +kernel
theorem dX0_startsPiece_15 : decode cX0_startsPiece 15 = .ok (.iconst 1, 1) := by decide +kernel
theorem dX0_startsPiece_16 : decode cX0_startsPiece 16 = .ok (.isub, 1) := by decide +kernel
theorem dX0_startsPiece_17 : decode cX0_startsPiece 17 = .ok (.invokevirtual 166, 3) := by decide +kernel
theorem dX0_startsPiece_20 : decode cX0_startsPiece 20 = .ok (.ifCond .ne 7, 3) := by decide +kernel
theorem dX0_startsPiece_23 : decode cX0_startsPiece 23 = .ok (.iconst 1, 1) := by decide +kernel
theorem dX0_startsPiece_24 : decode cX0_startsPiece 24 = .ok (.goto 4, 3) := by decide +kernel
theorem dX0_startsPiece_27 : decode cX0_startsPiece 27 = .ok (.iconst 0, 1) := by decide +kernel
theorem dX0_startsPiece_28 : decode cX0_startsPiece 28 = .ok (.ireturn, 1) := by decide +kernel
theorem dX0_goesOn_0 : decode cX0_goesOn 0 = .ok (.aload_n 0, 1) := by decide +kernel
theorem dX0_goesOn_1 : decode cX0_goesOn 1 = .ok (.iload_n 1, 1) := by decide +kernel
theorem dX0_goesOn_2 : decode cX0_goesOn 2 = .ok (.iload_n 2, 1) := by decide +kernel
theorem dX0_goesOn_3 : decode cX0_goesOn 3 = .ok (.invokevirtual 40, 3) := by decide +kernel
theorem dX0_goesOn_6 : decode cX0_goesOn 6 = .ok (.invokestatic 136, 3) := by decide +kernel
theorem dX0_goesOn_9 : decode cX0_goesOn 9 = .ok (.ifCond .eq 26, 3) := by decide +kernel
theorem dX0_goesOn_12 : decode cX0_goesOn 12 = .ok (.aload_n 0, 1) := by decide +kernel
theorem dX0_goesOn_13 : decode cX0_goesOn 13 = .ok (.iload_n 1, 1) := by decide +kernel
theorem dX0_goesOn_14 : decode cX0_goesOn 14 = .ok (.iload_n 2, 1) := by decide +kernel
theorem dX0_goesOn_15 : decode cX0_goesOn 15 = .ok (.iconst 1, 1) := by decide +kernel
theorem dX0_goesOn_16 : decode cX0_goesOn 16 = .ok (.iadd, 1) := by decide +kernel
theorem dX0_goesOn_17 : decode cX0_goesOn 17 = .ok (.invokevirtual 40, 3) := by decide +kernel
theorem dX0_goesOn_20 : decode cX0_goesOn 20 = .ok (.aload_n 0, 1) := by decide +kernel
theorem dX0_goesOn_21 : decode cX0_goesOn 21 = .ok (.iload_n 1, 1) := by decide +kernel
theorem dX0_goesOn_22 : decode cX0_goesOn 22 = .ok (.iload_n 2, 1) := by decide +kernel
theorem dX0_goesOn_23 : decode cX0_goesOn 23 = .ok (.invokevirtual 40, 3) := by decide +kernel
theorem dX0_goesOn_26 : decode cX0_goesOn 26 = .ok (.iconst 1, 1) := by decide +kernel
theorem dX0_goesOn_27 : decode cX0_goesOn 27 = .ok (.iadd, 1) := by decide +kernel
theorem dX0_goesOn_28 : decode cX0_goesOn 28 = .ok (.if_icmp .ne 7, 3) := by decide +kernel
theorem dX0_goesOn_31 : decode cX0_goesOn 31 = .ok (.iconst 1, 1) := by decide +kernel
theorem dX0_goesOn_32 : decode cX0_goesOn 32 = .ok (.goto 4, 3) := by decide +kernel
theorem dX0_goesOn_35 : decode cX0_goesOn 35 = .ok (.iconst 0, 1) := by decide +kernel
theorem dX0_goesOn_36 : decode cX0_goesOn 36 = .ok (.ireturn, 1) := by decide +kernel
theorem dX0_pieceStart_0 : decode cX0_pieceStart 0 = .ok (.iconst 0, 1) := by decide +kernel
theorem dX0_pieceStart_1 : decode cX0_pieceStart 1 = .ok (.istore_n 3, 1) := by decide +kernel
theorem dX0_pieceStart_2 : decode cX0_pieceStart 2 = .ok (.iconst 0, 1) := by decide +kernel
theorem dX0_pieceStart_3 : decode cX0_pieceStart 3 = .ok (.istore 4, 2) := by decide +kernel
theorem dX0_pieceStart_5 : decode cX0_pieceStart 5 = .ok (.iload 4, 2) := by decide +kernel
theorem dX0_pieceStart_7 : decode cX0_pieceStart 7 = .ok (.bipush 24, 2) := by decide +kernel
theorem dX0_pieceStart_9 : decode cX0_pieceStart 9 = .ok (.if_icmp .ge 30, 3) := by decide +kernel
theorem dX0_pieceStart_12 : decode cX0_pieceStart 12 = .ok (.aload_n 0, 1) := by decide +kernel
theorem dX0_pieceStart_13 : decode cX0_pieceStart 13 = .ok (.iload_n 1, 1) := by decide +kernel
theorem dX0_pieceStart_14 : decode cX0_pieceStart 14 = .ok (.iload 4, 2) := by decide +kernel
theorem dX0_pieceStart_16 : decode cX0_pieceStart 16 = .ok (.invokevirtual 169, 3) := by decide +kernel
theorem dX0_pieceStart_19 : decode cX0_pieceStart 19 = .ok (.ifCond .eq 14, 3) := by decide +kernel
theorem dX0_pieceStart_22 : decode cX0_pieceStart 22 = .ok (.iload_n 3, 1) := by decide +kernel
theorem dX0_pieceStart_23 : decode cX0_pieceStart 23 = .ok (.iload_n 2, 1) := by decide +kernel
theorem dX0_pieceStart_24 : decode cX0_pieceStart 24 = .ok (.if_icmp .ne 6, 3) := by decide +kernel
theorem dX0_pieceStart_27 : decode cX0_pieceStart 27 = .ok (.iload 4, 2) := by decide +kernel
theorem dX0_pieceStart_29 : decode cX0_pieceStart 29 = .ok (.ireturn, 1) := by decide +kernel
theorem dX0_pieceStart_30 : decode cX0_pieceStart 30 = .ok (.iinc 3 1, 3) := by decide +kernel
theorem dX0_pieceStart_33 : decode cX0_pieceStart 33 = .ok (.iinc 4 1, 3) := by decide +kernel
theorem dX0_pieceStart_36 : decode cX0_pieceStart 36 = .ok (.goto (-31), 3) := by decide +kernel
theorem dX0_pieceStart_39 : decode cX0_pieceStart 39 = .ok (.bipush (-9), 2) := by decide +kernel
theorem dX0_pieceStart_41 : decode cX0_pieceStart 41 = .ok (.ireturn, 1) := by decide +kernel
theorem dX0_pieceLength_0 : decode cX0_pieceLength 0 = .ok (.iconst 1, 1) := by decide +kernel
theorem dX0_pieceLength_1 : decode cX0_pieceLength 1 = .ok (.istore_n 3, 1) := by decide +kernel
theorem dX0_pieceLength_2 : decode cX0_pieceLength 2 = .ok (.iload_n 2, 1) := by decide +kernel
theorem dX0_pieceLength_3 : decode cX0_pieceLength 3 = .ok (.istore 4, 2) := by decide +kernel
theorem dX0_pieceLength_5 : decode cX0_pieceLength 5 = .ok (.iload 4, 2) := by decide +kernel
theorem dX0_pieceLength_7 : decode cX0_pieceLength 7 = .ok (.bipush 24, 2) := by decide +kernel
theorem dX0_pieceLength_9 : decode cX0_pieceLength 9 = .ok (.if_icmp .ge 22, 3) := by decide +kernel
theorem dX0_pieceLength_12 : decode cX0_pieceLength 12 = .ok (.aload_n 0, 1) := by decide +kernel
theorem dX0_pieceLength_13 : decode cX0_pieceLength 13 = .ok (.iload_n 1, 1) := by decide +kernel
theorem dX0_pieceLength_14 : decode cX0_pieceLength 14 = .ok (.iload 4, 2) := by decide +kernel
theorem dX0_pieceLength_16 : decode cX0_pieceLength 16 = .ok (.invokevirtual 166, 3) := by decide +kernel
theorem dX0_pieceLength_19 : decode cX0_pieceLength 19 = .ok (.ifCond .eq 12, 3) := by decide +kernel
theorem dX0_pieceLength_22 : decode cX0_pieceLength 22 = .ok (.iinc 3 1, 3) := by decide +kernel
theorem dX0_pieceLength_25 : decode cX0_pieceLength 25 = .ok (.iinc 4 1, 3) := by decide +kernel
theorem dX0_pieceLength_28 : decode cX0_pieceLength 28 = .ok (.goto (-23), 3) := by decide +kernel
theorem dX0_pieceLength_31 : decode cX0_pieceLength 31 = .ok (.iload_n 3, 1) := by decide +kernel
theorem dX0_pieceLength_32 : decode cX0_pieceLength 32 = .ok (.ireturn, 1) := by decide +kernel
theorem dX0_piecesOf_0 : decode cX0_piecesOf 0 = .ok (.iconst 0, 1) := by decide +kernel
theorem dX0_piecesOf_1 : decode cX0_piecesOf 1 = .ok (.istore_n 2, 1) := by decide +kernel
theorem dX0_piecesOf_2 : decode cX0_piecesOf 2 = .ok (.iconst 0, 1) := by decide +kernel
theorem dX0_piecesOf_3 : decode cX0_piecesOf 3 = .ok (.istore_n 3, 1) := by decide +kernel
theorem dX0_piecesOf_4 : decode cX0_piecesOf 4 = .ok (.iload_n 3, 1) := by decide +kernel
theorem dX0_piecesOf_5 : decode cX0_piecesOf 5 = .ok (.bipush 24, 2) := by decide +kernel
theorem dX0_piecesOf_7 : decode cX0_piecesOf 7 = .ok (.if_icmp .ge 21, 3) := by decide +kernel
theorem dX0_piecesOf_10 : decode cX0_piecesOf 10 = .ok (.aload_n 0, 1) := by decide +kernel
theorem dX0_piecesOf_11 : decode cX0_piecesOf 11 = .ok (.iload_n 1, 1) := by decide +kernel
theorem dX0_piecesOf_12 : decode cX0_piecesOf 12 = .ok (.iload_n 3, 1) := by decide +kernel
theorem dX0_piecesOf_13 : decode cX0_piecesOf 13 = .ok (.invokevirtual 169, 3) := by decide +kernel
theorem dX0_piecesOf_16 : decode cX0_piecesOf 16 = .ok (.ifCond .eq 6, 3) := by decide +kernel
theorem dX0_piecesOf_19 : decode cX0_piecesOf 19 = .ok (.iinc 2 1, 3) := by decide +kernel
theorem dX0_piecesOf_22 : decode cX0_piecesOf 22 = .ok (.iinc 3 1, 3) := by decide +kernel
theorem dX0_piecesOf_25 : decode cX0_piecesOf 25 = .ok (.goto (-21), 3) := by decide +kernel
theorem dX0_piecesOf_28 : decode cX0_piecesOf 28 = .ok (.iload_n 2, 1) := by decide +kernel
theorem dX0_piecesOf_29 : decode cX0_piecesOf 29 = .ok (.ireturn, 1) := by decide +kernel
theorem dX0_cellOf_0 : decode cX0_cellOf 0 = .ok (.iload_n 1, 1) := by decide +kernel
theorem dX0_cellOf_1 : decode cX0_cellOf 1 = .ok (.invokestatic 136, 3) := by decide +kernel
theorem dX0_cellOf_4 : decode cX0_cellOf 4 = .ok (.ifCond .eq 25, 3) := by decide +kernel
theorem dX0_cellOf_7 : decode cX0_cellOf 7 = .ok (.iload_n 2, 1) := by decide +kernel
theorem dX0_cellOf_8 : decode cX0_cellOf 8 = .ok (.ifCond .lt 21, 3) := by decide +kernel
theorem dX0_cellOf_11 : decode cX0_cellOf 11 = .ok (.iload_n 2, 1) := by decide +kernel
theorem dX0_cellOf_12 : decode cX0_cellOf 12 = .ok (.iconst 4, 1) := by decide +kernel
theorem dX0_cellOf_13 : decode cX0_cellOf 13 = .ok (.if_icmp .ge 16, 3) := by decide +kernel
theorem dX0_cellOf_16 : decode cX0_cellOf 16 = .ok (.aload_n 0, 1) := by decide +kernel
theorem dX0_cellOf_17 : decode cX0_cellOf 17 = .ok (.getfield 9, 3) := by decide +kernel
theorem dX0_cellOf_20 : decode cX0_cellOf 20 = .ok (.iload_n 1, 1) := by decide +kernel
theorem dX0_cellOf_21 : decode cX0_cellOf 21 = .ok (.iconst 4, 1) := by decide +kernel
theorem dX0_cellOf_22 : decode cX0_cellOf 22 = .ok (.imul, 1) := by decide +kernel
theorem dX0_cellOf_23 : decode cX0_cellOf 23 = .ok (.iload_n 2, 1) := by decide +kernel
theorem dX0_cellOf_24 : decode cX0_cellOf 24 = .ok (.iadd, 1) := by decide +kernel
theorem dX0_cellOf_25 : decode cX0_cellOf 25 = .ok (.iaload, 1) := by decide +kernel
theorem dX0_cellOf_26 : decode cX0_cellOf 26 = .ok (.goto 4, 3) := by decide +kernel
theorem dX0_cellOf_29 : decode cX0_cellOf 29 = .ok (.iconst 0, 1) := by decide +kernel
theorem dX0_cellOf_30 : decode cX0_cellOf 30 = .ok (.ireturn, 1) := by decide +kernel
theorem dX0_setCell_0 : decode cX0_setCell 0 = .ok (.iload_n 1, 1) := by decide +kernel
theorem dX0_setCell_1 : decode cX0_setCell 1 = .ok (.invokestatic 136, 3) := by decide +kernel
theorem dX0_setCell_4 : decode cX0_setCell 4 = .ok (.ifCond .eq 23, 3) := by decide +kernel
theorem dX0_setCell_7 : decode cX0_setCell 7 = .ok (.iload_n 2, 1) := by decide +kernel
theorem dX0_setCell_8 : decode cX0_setCell 8 = .ok (.ifCond .lt 19, 3) := by decide +kernel
theorem dX0_setCell_11 : decode cX0_setCell 11 = .ok (.iload_n 2, 1) := by decide +kernel
theorem dX0_setCell_12 : decode cX0_setCell 12 = .ok (.iconst 4, 1) := by decide +kernel
theorem dX0_setCell_13 : decode cX0_setCell 13 = .ok (.if_icmp .ge 14, 3) := by decide +kernel
theorem dX0_setCell_16 : decode cX0_setCell 16 = .ok (.aload_n 0, 1) := by decide +kernel
theorem dX0_setCell_17 : decode cX0_setCell 17 = .ok (.getfield 9, 3) := by decide +kernel
theorem dX0_setCell_20 : decode cX0_setCell 20 = .ok (.iload_n 1, 1) := by decide +kernel
theorem dX0_setCell_21 : decode cX0_setCell 21 = .ok (.iconst 4, 1) := by decide +kernel
theorem dX0_setCell_22 : decode cX0_setCell 22 = .ok (.imul, 1) := by decide +kernel
theorem dX0_setCell_23 : decode cX0_setCell 23 = .ok (.iload_n 2, 1) := by decide +kernel
theorem dX0_setCell_24 : decode cX0_setCell 24 = .ok (.iadd, 1) := by decide +kernel
theorem dX0_setCell_25 : decode cX0_setCell 25 = .ok (.iload_n 3, 1) := by decide +kernel
theorem dX0_setCell_26 : decode cX0_setCell 26 = .ok (.iastore, 1) := by decide +kernel
theorem dX0_setCell_27 : decode cX0_setCell 27 = .ok (.return_, 1) := by decide +kernel
theorem dX0_countOf_0 : decode cX0_countOf 0 = .ok (.iload_n 1, 1) := by decide +kernel
theorem dX0_countOf_1 : decode cX0_countOf 1 = .ok (.invokestatic 136, 3) := by decide +kernel
theorem dX0_countOf_4 : decode cX0_countOf 4 = .ok (.ifCond .eq 12, 3) := by decide +kernel
theorem dX0_countOf_7 : decode cX0_countOf 7 = .ok (.aload_n 0, 1) := by decide +kernel
theorem dX0_countOf_8 : decode cX0_countOf 8 = .ok (.getfield 13, 3) := by decide +kernel
theorem dX0_countOf_11 : decode cX0_countOf 11 = .ok (.iload_n 1, 1) := by decide +kernel
theorem dX0_countOf_12 : decode cX0_countOf 12 = .ok (.iaload, 1) := by decide +kernel
theorem dX0_countOf_13 : decode cX0_countOf 13 = .ok (.goto 4, 3) := by decide +kernel
theorem dX0_countOf_16 : decode cX0_countOf 16 = .ok (.iconst 0, 1) := by decide +kernel
theorem dX0_countOf_17 : decode cX0_countOf 17 = .ok (.ireturn, 1) := by decide +kernel
theorem dX0_addToCount_0 : decode cX0_addToCount 0 = .ok (.iload_n 1, 1) := by decide +kernel
theorem dX0_addToCount_1 : decode cX0_addToCount 1 = .ok (.invokestatic 136, 3) := by decide +kernel
theorem dX0_addToCount_4 : decode cX0_addToCount 4 = .ok (.ifCond .eq 13, 3) := by decide +kernel
theorem dX0_addToCount_7 : decode cX0_addToCount 7 = .ok (.aload_n 0, 1) := by decide +kernel
theorem dX0_addToCount_8 : decode cX0_addToCount 8 = .ok (.getfield 13, 3) := by decide +kernel
theorem dX0_addToCount_11 : decode cX0_addToCount 11 = .ok (.iload_n 1, 1) := by decide +kernel
theorem dX0_addToCount_12 : decode cX0_addToCount 12 = .ok (.dup2, 1) := by decide +kernel
theorem dX0_addToCount_13 : decode cX0_addToCount 13 = .ok (.iaload, 1) := by decide +kernel
theorem dX0_addToCount_14 : decode cX0_addToCount 14 = .ok (.iload_n 2, 1) := by decide +kernel
theorem dX0_addToCount_15 : decode cX0_addToCount 15 = .ok (.iadd, 1) := by decide +kernel
theorem dX0_addToCount_16 : decode cX0_addToCount 16 = .ok (.iastore, 1) := by decide +kernel
theorem dX0_addToCount_17 : decode cX0_addToCount 17 = .ok (.return_, 1) := by decide +kernel
theorem dX0_freeMany_0 : decode cX0_freeMany 0 = .ok (.iconst 0, 1) := by decide +kernel
theorem dX0_freeMany_1 : decode cX0_freeMany 1 = .ok (.istore_n 1, 1) := by decide +kernel
theorem dX0_freeMany_2 : decode cX0_freeMany 2 = .ok (.iconst 0, 1) := by decide +kernel
theorem dX0_freeMany_3 : decode cX0_freeMany 3 = .ok (.istore_n 2, 1) := by decide +kernel
theorem dX0_freeMany_4 : decode cX0_freeMany 4 = .ok (.iload_n 2, 1) := by decide +kernel
theorem dX0_freeMany_5 : decode cX0_freeMany 5 = .ok (.bipush 48, 2) := by decide +kernel
theorem dX0_freeMany_7 : decode cX0_freeMany 7 = .ok (.if_icmp .ge 20, 3) := by decide +kernel
theorem dX0_freeMany_10 : decode cX0_freeMany 10 = .ok (.aload_n 0, 1) := by decide +kernel
theorem dX0_freeMany_11 : decode cX0_freeMany 11 = .ok (.iload_n 2, 1) := by decide +kernel
theorem dX0_freeMany_12 : decode cX0_freeMany 12 = .ok (.invokevirtual 142, 3) := by decide +kernel
theorem dX0_freeMany_15 : decode cX0_freeMany 15 = .ok (.ifCond .ne 6, 3) := by decide +kernel
theorem dX0_freeMany_18 : decode cX0_freeMany 18 = .ok (.iinc 1 1, 3) := by decide +kernel
theorem dX0_freeMany_21 : decode cX0_freeMany 21 = .ok (.iinc 2 1, 3) := by decide +kernel
theorem dX0_freeMany_24 : decode cX0_freeMany 24 = .ok (.goto (-20), 3) := by decide +kernel
theorem dX0_freeMany_27 : decode cX0_freeMany 27 = .ok (.iload_n 1, 1) := by decide +kernel
theorem dX0_freeMany_28 : decode cX0_freeMany 28 = .ok (.ireturn, 1) := by decide +kernel
theorem dX0_sharedMany_0 : decode cX0_sharedMany 0 = .ok (.iconst 0, 1) := by decide +kernel
theorem dX0_sharedMany_1 : decode cX0_sharedMany 1 = .ok (.istore_n 1, 1) := by decide +kernel
theorem dX0_sharedMany_2 : decode cX0_sharedMany 2 = .ok (.iconst 0, 1) := by decide +kernel
theorem dX0_sharedMany_3 : decode cX0_sharedMany 3 = .ok (.istore_n 2, 1) := by decide +kernel
theorem dX0_sharedMany_4 : decode cX0_sharedMany 4 = .ok (.iload_n 2, 1) := by decide +kernel
theorem dX0_sharedMany_5 : decode cX0_sharedMany 5 = .ok (.bipush 48, 2) := by decide +kernel
theorem dX0_sharedMany_7 : decode cX0_sharedMany 7 = .ok (.if_icmp .ge 21, 3) := by decide +kernel
theorem dX0_sharedMany_10 : decode cX0_sharedMany 10 = .ok (.aload_n 0, 1) := by decide +kernel
theorem dX0_sharedMany_11 : decode cX0_sharedMany 11 = .ok (.iload_n 2, 1) := by decide +kernel
theorem dX0_sharedMany_12 : decode cX0_sharedMany 12 = .ok (.invokevirtual 142, 3) := by decide +kernel
theorem dX0_sharedMany_15 : decode cX0_sharedMany 15 = .ok (.iconst 1, 1) := by decide +kernel
theorem dX0_sharedMany_16 : decode cX0_sharedMany 16 = .ok (.if_icmp .le 6, 3) := by decide +kernel
theorem dX0_sharedMany_19 : decode cX0_sharedMany 19 = .ok (.iinc 1 1, 3) := by decide +kernel
theorem dX0_sharedMany_22 : decode cX0_sharedMany 22 = .ok (.iinc 2 1, 3) := by decide +kernel
theorem dX0_sharedMany_25 : decode cX0_sharedMany 25 = .ok (.goto (-21), 3) := by decide +kernel
theorem dX0_sharedMany_28 : decode cX0_sharedMany 28 = .ok (.iload_n 1, 1) := by decide +kernel
theorem dX0_sharedMany_29 : decode cX0_sharedMany 29 = .ok (.ireturn, 1) := by decide +kernel
theorem dX0_startsStretch_0 : decode cX0_startsStretch 0 = .ok (.aload_n 0, 1) := by decide +kernel
theorem dX0_startsStretch_1 : decode cX0_startsStretch 1 = .ok (.iload_n 1, 1) := by decide +kernel
theorem dX0_startsStretch_2 : decode cX0_startsStretch 2 = .ok (.invokevirtual 142, 3) := by decide +kernel
theorem dX0_startsStretch_5 : decode cX0_startsStretch 5 = .ok (.ifCond .ne 7, 3) := by decide +kernel
theorem dX0_startsStretch_8 : decode cX0_startsStretch 8 = .ok (.iconst 1, 1) := by decide +kernel
theorem dX0_startsStretch_9 : decode cX0_startsStretch 9 = .ok (.goto 4, 3) := by decide +kernel
theorem dX0_startsStretch_12 : decode cX0_startsStretch 12 = .ok (.iconst 0, 1) := by decide +kernel
theorem dX0_startsStretch_13 : decode cX0_startsStretch 13 = .ok (.iload_n 2, 1) := by decide +kernel
theorem dX0_startsStretch_14 : decode cX0_startsStretch 14 = .ok (.if_icmp .ne 26, 3) := by decide +kernel
theorem dX0_startsStretch_17 : decode cX0_startsStretch 17 = .ok (.iload_n 1, 1) := by decide +kernel
theorem dX0_startsStretch_18 : decode cX0_startsStretch 18 = .ok (.ifCond .eq 18, 3) := by decide +kernel
theorem dX0_startsStretch_21 : decode cX0_startsStretch 21 = .ok (.aload_n 0, 1) := by decide +kernel
theorem dX0_startsStretch_22 : decode cX0_startsStretch 22 = .ok (.iload_n 1, 1) := by decide +kernel
theorem dX0_startsStretch_23 : decode cX0_startsStretch 23 = .ok (.iconst 1, 1) := by decide +kernel
theorem dX0_startsStretch_24 : decode cX0_startsStretch 24 = .ok (.isub, 1) := by decide +kernel
theorem dX0_startsStretch_25 : decode cX0_startsStretch 25 = .ok (.invokevirtual 142, 3) := by decide +kernel
theorem dX0_startsStretch_28 : decode cX0_startsStretch 28 = .ok (.aload_n 0, 1) := by decide +kernel
theorem dX0_startsStretch_29 : decode cX0_startsStretch 29 = .ok (.iload_n 1, 1) := by decide +kernel
theorem dX0_startsStretch_30 : decode cX0_startsStretch 30 = .ok (.invokevirtual 142, 3) := by decide +kernel
theorem dX0_startsStretch_33 : decode cX0_startsStretch 33 = .ok (.if_icmp .eq 7, 3) := by decide +kernel
theorem dX0_startsStretch_36 : decode cX0_startsStretch 36 = .ok (.iconst 1, 1) := by decide +kernel
theorem dX0_startsStretch_37 : decode cX0_startsStretch 37 = .ok (.goto 4, 3) := by decide +kernel
theorem dX0_startsStretch_40 : decode cX0_startsStretch 40 = .ok (.iconst 0, 1) := by decide +kernel
theorem dX0_startsStretch_41 : decode cX0_startsStretch 41 = .ok (.ireturn, 1) := by decide +kernel
theorem dX0_stretchStart_0 : decode cX0_stretchStart 0 = .ok (.iconst 0, 1) := by decide +kernel
theorem dX0_stretchStart_1 : decode cX0_stretchStart 1 = .ok (.istore_n 3, 1) := by decide +kernel
theorem dX0_stretchStart_2 : decode cX0_stretchStart 2 = .ok (.iconst 0, 1) := by decide +kernel
theorem dX0_stretchStart_3 : decode cX0_stretchStart 3 = .ok (.istore 4, 2) := by decide +kernel
theorem dX0_stretchStart_5 : decode cX0_stretchStart 5 = .ok (.iload 4, 2) := by decide +kernel
theorem dX0_stretchStart_7 : decode cX0_stretchStart 7 = .ok (.bipush 48, 2) := by decide +kernel
theorem dX0_stretchStart_9 : decode cX0_stretchStart 9 = .ok (.if_icmp .ge 30, 3) := by decide +kernel
theorem dX0_stretchStart_12 : decode cX0_stretchStart 12 = .ok (.aload_n 0, 1) := by decide +kernel
theorem dX0_stretchStart_13 : decode cX0_stretchStart 13 = .ok (.iload 4, 2) := by decide +kernel
theorem dX0_stretchStart_15 : decode cX0_stretchStart 15 = .ok (.iload_n 2, 1) := by decide +kernel
theorem dX0_stretchStart_16 : decode cX0_stretchStart 16 = .ok (.invokevirtual 172, 3) := by decide +kernel
theorem dX0_stretchStart_19 : decode cX0_stretchStart 19 = .ok (.ifCond .eq 14, 3) := by decide +kernel
theorem dX0_stretchStart_22 : decode cX0_stretchStart 22 = .ok (.iload_n 3, 1) := by decide +kernel
theorem dX0_stretchStart_23 : decode cX0_stretchStart 23 = .ok (.iload_n 1, 1) := by decide +kernel
theorem dX0_stretchStart_24 : decode cX0_stretchStart 24 = .ok (.if_icmp .ne 6, 3) := by decide +kernel
theorem dX0_stretchStart_27 : decode cX0_stretchStart 27 = .ok (.iload 4, 2) := by decide +kernel
theorem dX0_stretchStart_29 : decode cX0_stretchStart 29 = .ok (.ireturn, 1) := by decide +kernel
theorem dX0_stretchStart_30 : decode cX0_stretchStart 30 = .ok (.iinc 3 1, 3) := by decide +kernel
theorem dX0_stretchStart_33 : decode cX0_stretchStart 33 = .ok (.iinc 4 1, 3) := by decide +kernel
theorem dX0_stretchStart_36 : decode cX0_stretchStart 36 = .ok (.goto (-31), 3) := by decide +kernel
theorem dX0_stretchStart_39 : decode cX0_stretchStart 39 = .ok (.bipush (-9), 2) := by decide +kernel
theorem dX0_stretchStart_41 : decode cX0_stretchStart 41 = .ok (.ireturn, 1) := by decide +kernel
theorem dX0_stretchLength_0 : decode cX0_stretchLength 0 = .ok (.iconst 1, 1) := by decide +kernel
theorem dX0_stretchLength_1 : decode cX0_stretchLength 1 = .ok (.istore_n 2, 1) := by decide +kernel
theorem dX0_stretchLength_2 : decode cX0_stretchLength 2 = .ok (.iload_n 1, 1) := by decide +kernel
theorem dX0_stretchLength_3 : decode cX0_stretchLength 3 = .ok (.iconst 1, 1) := by decide +kernel
theorem dX0_stretchLength_4 : decode cX0_stretchLength 4 = .ok (.iadd, 1) := by decide +kernel
theorem dX0_stretchLength_5 : decode cX0_stretchLength 5 = .ok (.istore_n 3, 1) := by decide +kernel
theorem dX0_stretchLength_6 : decode cX0_stretchLength 6 = .ok (.iload_n 3, 1) := by decide +kernel
theorem dX0_stretchLength_7 : decode cX0_stretchLength 7 = .ok (.bipush 48, 2) := by decide +kernel
theorem dX0_stretchLength_9 : decode cX0_stretchLength 9 = .ok (.if_icmp .ge 25, 3) := by decide +kernel
theorem dX0_stretchLength_12 : decode cX0_stretchLength 12 = .ok (.aload_n 0, 1) := by decide +kernel
theorem dX0_stretchLength_13 : decode cX0_stretchLength 13 = .ok (.iload_n 3, 1) := by decide +kernel
theorem dX0_stretchLength_14 : decode cX0_stretchLength 14 = .ok (.invokevirtual 142, 3) := by decide +kernel
theorem dX0_stretchLength_17 : decode cX0_stretchLength 17 = .ok (.aload_n 0, 1) := by decide +kernel
theorem dX0_stretchLength_18 : decode cX0_stretchLength 18 = .ok (.iload_n 1, 1) := by decide +kernel
theorem dX0_stretchLength_19 : decode cX0_stretchLength 19 = .ok (.invokevirtual 142, 3) := by decide +kernel
theorem dX0_stretchLength_22 : decode cX0_stretchLength 22 = .ok (.if_icmp .ne 12, 3) := by decide +kernel
theorem dX0_stretchLength_25 : decode cX0_stretchLength 25 = .ok (.iinc 2 1, 3) := by decide +kernel
theorem dX0_stretchLength_28 : decode cX0_stretchLength 28 = .ok (.iinc 3 1, 3) := by decide +kernel
theorem dX0_stretchLength_31 : decode cX0_stretchLength 31 = .ok (.goto (-25), 3) := by decide +kernel
theorem dX0_stretchLength_34 : decode cX0_stretchLength 34 = .ok (.iload_n 2, 1) := by decide +kernel
theorem dX0_stretchLength_35 : decode cX0_stretchLength 35 = .ok (.ireturn, 1) := by decide +kernel
theorem dX0_stretchesMany_0 : decode cX0_stretchesMany 0 = .ok (.iconst 0, 1) := by decide +kernel
theorem dX0_stretchesMany_1 : decode cX0_stretchesMany 1 = .ok (.istore_n 2, 1) := by decide +kernel
theorem dX0_stretchesMany_2 : decode cX0_stretchesMany 2 = .ok (.iconst 0, 1) := by decide +kernel
theorem dX0_stretchesMany_3 : decode cX0_stretchesMany 3 = .ok (.istore_n 3, 1) := by decide +kernel
theorem dX0_stretchesMany_4 : decode cX0_stretchesMany 4 = .ok (.iload_n 3, 1) := by decide +kernel
theorem dX0_stretchesMany_5 : decode cX0_stretchesMany 5 = .ok (.bipush 48, 2) := by decide +kernel
theorem dX0_stretchesMany_7 : decode cX0_stretchesMany 7 = .ok (.if_icmp .ge 21, 3) := by decide +kernel
theorem dX0_stretchesMany_10 : decode cX0_stretchesMany 10 = .ok (.aload_n 0, 1) := by decide +kernel
theorem dX0_stretchesMany_11 : decode cX0_stretchesMany 11 = .ok (.iload_n 3, 1) := by decide +kernel
theorem dX0_stretchesMany_12 : decode cX0_stretchesMany 12 = .ok (.iload_n 1, 1) := by decide +kernel
theorem dX0_stretchesMany_13 : decode cX0_stretchesMany 13 = .ok (.invokevirtual 172, 3) := by decide +kernel
theorem dX0_stretchesMany_16 : decode cX0_stretchesMany 16 = .ok (.ifCond .eq 6, 3) := by decide +kernel
theorem dX0_stretchesMany_19 : decode cX0_stretchesMany 19 = .ok (.iinc 2 1, 3) := by decide +kernel
theorem dX0_stretchesMany_22 : decode cX0_stretchesMany 22 = .ok (.iinc 3 1, 3) := by decide +kernel
theorem dX0_stretchesMany_25 : decode cX0_stretchesMany 25 = .ok (.goto (-21), 3) := by decide +kernel
theorem dX0_stretchesMany_28 : decode cX0_stretchesMany 28 = .ok (.iload_n 2, 1) := by decide +kernel
theorem dX0_stretchesMany_29 : decode cX0_stretchesMany 29 = .ok (.ireturn, 1) := by decide +kernel
theorem dX0_getBlocks_0 : decode cX0_getBlocks 0 = .ok (.aload_n 0, 1) := by decide +kernel
theorem dX0_getBlocks_1 : decode cX0_getBlocks 1 = .ok (.iconst 0, 1) := by decide +kernel
theorem dX0_getBlocks_2 : decode cX0_getBlocks 2 = .ok (.putfield 176, 3) := by decide +kernel
theorem dX0_getBlocks_5 : decode cX0_getBlocks 5 = .ok (.iconst 0, 1) := by decide +kernel
theorem dX0_getBlocks_6 : decode cX0_getBlocks 6 = .ok (.istore_n 2, 1) := by decide +kernel
theorem dX0_getBlocks_7 : decode cX0_getBlocks 7 = .ok (.iload_n 2, 1) := by decide +kernel
theorem dX0_getBlocks_8 : decode cX0_getBlocks 8 = .ok (.bipush 48, 2) := by decide +kernel
theorem dX0_getBlocks_10 : decode cX0_getBlocks 10 = .ok (.if_icmp .ge 37, 3) := by decide +kernel
theorem dX0_getBlocks_13 : decode cX0_getBlocks 13 = .ok (.aload_n 0, 1) := by decide +kernel
theorem dX0_getBlocks_14 : decode cX0_getBlocks 14 = .ok (.getfield 176, 3) := by decide +kernel
theorem dX0_getBlocks_17 : decode cX0_getBlocks 17 = .ok (.iload_n 1, 1) := by decide +kernel
theorem dX0_getBlocks_18 : decode cX0_getBlocks 18 = .ok (.if_icmp .ge 29, 3) := by decide +kernel
theorem dX0_getBlocks_21 : decode cX0_getBlocks 21 = .ok (.aload_n 0, 1) := by decide +kernel
theorem dX0_getBlocks_22 : decode cX0_getBlocks 22 = .ok (.aload_n 0, 1) := by decide +kernel
theorem dX0_getBlocks_23 : decode cX0_getBlocks 23 = .ok (.iload_n 1, 1) := by decide +kernel
theorem dX0_getBlocks_24 : decode cX0_getBlocks 24 = .ok (.aload_n 0, 1) := by decide +kernel
theorem dX0_getBlocks_25 : decode cX0_getBlocks 25 = .ok (.getfield 176, 3) := by decide +kernel
theorem dX0_getBlocks_28 : decode cX0_getBlocks 28 = .ok (.isub, 1) := by decide +kernel
theorem dX0_getBlocks_29 : decode cX0_getBlocks 29 = .ok (.invokevirtual 179, 3) := by decide +kernel
theorem dX0_getBlocks_32 : decode cX0_getBlocks 32 = .ok (.iload_n 1, 1) := by decide +kernel
theorem dX0_getBlocks_33 : decode cX0_getBlocks 33 = .ok (.aload_n 0, 1) := by decide +kernel
theorem dX0_getBlocks_34 : decode cX0_getBlocks 34 = .ok (.getfield 176, 3) := by decide +kernel
theorem dX0_getBlocks_37 : decode cX0_getBlocks 37 = .ok (.isub, 1) := by decide +kernel
theorem dX0_getBlocks_38 : decode cX0_getBlocks 38 = .ok (.invokevirtual 182, 3) := by decide +kernel
theorem dX0_getBlocks_41 : decode cX0_getBlocks 41 = .ok (.iinc 2 1, 3) := by decide +kernel
theorem dX0_getBlocks_44 : decode cX0_getBlocks 44 = .ok (.goto (-37), 3) := by decide +kernel
theorem dX0_getBlocks_47 : decode cX0_getBlocks 47 = .ok (.return_, 1) := by decide +kernel
theorem dX0_bestRun_0 : decode cX0_bestRun 0 = .ok (.bipush (-9), 2) := by decide +kernel
theorem dX0_bestRun_2 : decode cX0_bestRun 2 = .ok (.istore_n 2, 1) := by decide +kernel
theorem dX0_bestRun_3 : decode cX0_bestRun 3 = .ok (.iconst 0, 1) := by decide +kernel
theorem dX0_bestRun_4 : decode cX0_bestRun 4 = .ok (.istore_n 3, 1) := by decide +kernel
theorem dX0_bestRun_5 : decode cX0_bestRun 5 = .ok (.iconst 0, 1) := by decide +kernel
theorem dX0_bestRun_6 : decode cX0_bestRun 6 = .ok (.istore 4, 2) := by decide +kernel
theorem dX0_bestRun_8 : decode cX0_bestRun 8 = .ok (.iload 4, 2) := by decide +kernel
theorem dX0_bestRun_10 : decode cX0_bestRun 10 = .ok (.bipush 48, 2) := by decide +kernel
theorem dX0_bestRun_12 : decode cX0_bestRun 12 = .ok (.if_icmp .ge 43, 3) := by decide +kernel
theorem dX0_bestRun_15 : decode cX0_bestRun 15 = .ok (.aload_n 0, 1) := by decide +kernel
theorem dX0_bestRun_16 : decode cX0_bestRun 16 = .ok (.iload 4, 2) := by decide +kernel
theorem dX0_bestRun_18 : decode cX0_bestRun 18 = .ok (.iconst 1, 1) := by decide +kernel
theorem dX0_bestRun_19 : decode cX0_bestRun 19 = .ok (.invokevirtual 172, 3) := by decide +kernel
theorem dX0_bestRun_22 : decode cX0_bestRun 22 = .ok (.ifCond .eq 27, 3) := by decide +kernel
theorem dX0_bestRun_25 : decode cX0_bestRun 25 = .ok (.aload_n 0, 1) := by decide +kernel
theorem dX0_bestRun_26 : decode cX0_bestRun 26 = .ok (.iload 4, 2) := by decide +kernel
theorem dX0_bestRun_28 : decode cX0_bestRun 28 = .ok (.invokevirtual 149, 3) := by decide +kernel
theorem dX0_bestRun_31 : decode cX0_bestRun 31 = .ok (.iload_n 3, 1) := by decide +kernel
theorem dX0_bestRun_32 : decode cX0_bestRun 32 = .ok (.iload_n 1, 1) := by decide +kernel
theorem dX0_bestRun_33 : decode cX0_bestRun 33 = .ok (.invokestatic 185, 3) := by decide +kernel
theorem dX0_bestRun_36 : decode cX0_bestRun 36 = .ok (.ifCond .eq 13, 3) := by decide +kernel
theorem dX0_bestRun_39 : decode cX0_bestRun 39 = .ok (.iload 4, 2) := by decide +kernel
theorem dX0_bestRun_41 : decode cX0_bestRun 41 = .ok (.istore_n 2, 1) := by decide +kernel
theorem dX0_bestRun_42 : decode cX0_bestRun 42 = .ok (.aload_n 0, 1) := by decide +kernel
theorem dX0_bestRun_43 : decode cX0_bestRun 43 = .ok (.iload 4, 2) := by decide +kernel
theorem dX0_bestRun_45 : decode cX0_bestRun 45 = .ok (.invokevirtual 149, 3) := by decide +kernel
theorem dX0_bestRun_48 : decode cX0_bestRun 48 = .ok (.istore_n 3, 1) := by decide +kernel
theorem dX0_bestRun_49 : decode cX0_bestRun 49 = .ok (.iinc 4 1, 3) := by decide +kernel
theorem dX0_bestRun_52 : decode cX0_bestRun 52 = .ok (.goto (-44), 3) := by decide +kernel
theorem dX0_bestRun_55 : decode cX0_bestRun 55 = .ok (.iload_n 2, 1) := by decide +kernel
theorem dX0_bestRun_56 : decode cX0_bestRun 56 = .ok (.ireturn, 1) := by decide +kernel
theorem dX0_fitsBetter_0 : decode cX0_fitsBetter 0 = .ok (.iload_n 0, 1) := by decide +kernel
theorem dX0_fitsBetter_1 : decode cX0_fitsBetter 1 = .ok (.iload_n 2, 1) := by decide +kernel
theorem dX0_fitsBetter_2 : decode cX0_fitsBetter 2 = .ok (.if_icmp .lt 19, 3) := by decide +kernel
theorem dX0_fitsBetter_5 : decode cX0_fitsBetter 5 = .ok (.iload_n 1, 1) := by decide +kernel
theorem dX0_fitsBetter_6 : decode cX0_fitsBetter 6 = .ok (.iload_n 2, 1) := by decide +kernel
theorem dX0_fitsBetter_7 : decode cX0_fitsBetter 7 = .ok (.if_icmp .lt 8, 3) := by decide +kernel
theorem dX0_fitsBetter_10 : decode cX0_fitsBetter 10 = .ok (.iload_n 0, 1) := by decide +kernel
theorem dX0_fitsBetter_11 : decode cX0_fitsBetter 11 = .ok (.iload_n 1, 1) := by decide +kernel
theorem dX0_fitsBetter_12 : decode cX0_fitsBetter 12 = .ok (.if_icmp .ge 7, 3) := by decide +kernel
theorem dX0_fitsBetter_15 : decode cX0_fitsBetter 15 = .ok (.iconst 1, 1) := by decide +kernel
theorem dX0_fitsBetter_16 : decode cX0_fitsBetter 16 = .ok (.goto 4, 3) := by decide +kernel
theorem dX0_fitsBetter_19 : decode cX0_fitsBetter 19 = .ok (.iconst 0, 1) := by decide +kernel
theorem dX0_fitsBetter_20 : decode cX0_fitsBetter 20 = .ok (.ireturn, 1) := by decide +kernel
theorem dX0_fitsBetter_21 : decode cX0_fitsBetter 21 = .ok (.iload_n 0, 1) := by decide +kernel
theorem dX0_fitsBetter_22 : decode cX0_fitsBetter 22 = .ok (.iload_n 1, 1) := by decide +kernel
theorem dX0_fitsBetter_23 : decode cX0_fitsBetter 23 = .ok (.if_icmp .le 7, 3) := by decide +kernel
theorem dX0_fitsBetter_26 : decode cX0_fitsBetter 26 = .ok (.iconst 1, 1) := by decide +kernel
theorem dX0_fitsBetter_27 : decode cX0_fitsBetter 27 = .ok (.goto 4, 3) := by decide +kernel
theorem dX0_fitsBetter_30 : decode cX0_fitsBetter 30 = .ok (.iconst 0, 1) := by decide +kernel
theorem dX0_fitsBetter_31 : decode cX0_fitsBetter 31 = .ok (.ireturn, 1) := by decide +kernel
theorem dX0_takeFromRun_0 : decode cX0_takeFromRun 0 = .ok (.iload_n 1, 1) := by decide +kernel
theorem dX0_takeFromRun_1 : decode cX0_takeFromRun 1 = .ok (.invokestatic 136, 3) := by decide +kernel
theorem dX0_takeFromRun_4 : decode cX0_takeFromRun 4 = .ok (.ifCond .ne 4, 3) := by decide +kernel
theorem dX0_takeFromRun_7 : decode cX0_takeFromRun 7 = .ok (.return_, 1) := by decide +kernel
theorem dX0_takeFromRun_8 : decode cX0_takeFromRun 8 = .ok (.iload_n 1, 1) := by decide +kernel
theorem dX0_takeFromRun_9 : decode cX0_takeFromRun 9 = .ok (.iload_n 2, 1) := by decide +kernel
theorem dX0_takeFromRun_10 : decode cX0_takeFromRun 10 = .ok (.aload_n 0, 1) := by decide +kernel
theorem dX0_takeFromRun_11 : decode cX0_takeFromRun 11 = .ok (.iload_n 1, 1) := by decide +kernel
theorem dX0_takeFromRun_12 : decode cX0_takeFromRun 12 = .ok (.invokevirtual 149, 3) := by decide +kernel
theorem dX0_takeFromRun_15 : decode cX0_takeFromRun 15 = .ok (.invokestatic 86, 3) := by decide +kernel
theorem dX0_takeFromRun_18 : decode cX0_takeFromRun 18 = .ok (.iadd, 1) := by decide +kernel
theorem dX0_takeFromRun_19 : decode cX0_takeFromRun 19 = .ok (.istore_n 3, 1) := by decide +kernel
theorem dX0_takeFromRun_20 : decode cX0_takeFromRun 20 = .ok (.iload_n 1, 1) := by decide +kernel
theorem dX0_takeFromRun_21 : decode cX0_takeFromRun 21 = .ok (.istore 4, 2) := by decide +kernel
theorem dX0_takeFromRun_23 : decode cX0_takeFromRun 23 = .ok (.iload 4, 2) := by decide +kernel
theorem dX0_takeFromRun_25 : decode cX0_takeFromRun 25 = .ok (.iload_n 3, 1) := by decide +kernel
theorem dX0_takeFromRun_26 : decode cX0_takeFromRun 26 = .ok (.if_icmp .ge 49, 3) := by decide +kernel
theorem dX0_takeFromRun_29 : decode cX0_takeFromRun 29 = .ok (.aload_n 0, 1) := by decide +kernel
theorem dX0_takeFromRun_30 : decode cX0_takeFromRun 30 = .ok (.getfield 176, 3) := by decide +kernel
theorem dX0_takeFromRun_33 : decode cX0_takeFromRun 33 = .ok (.aload_n 0, 1) := by decide +kernel
theorem dX0_takeFromRun_34 : decode cX0_takeFromRun 34 = .ok (.getfield 25, 3) := by decide +kernel
theorem dX0_takeFromRun_37 : decode cX0_takeFromRun 37 = .ok (.arraylength, 1) := by decide +kernel
theorem dX0_takeFromRun_38 : decode cX0_takeFromRun 38 = .ok (.if_icmp .ge 37, 3) := by decide +kernel
theorem dX0_takeFromRun_41 : decode cX0_takeFromRun 41 = .ok (.aload_n 0, 1) := by decide +kernel
theorem dX0_takeFromRun_42 : decode cX0_takeFromRun 42 = .ok (.iload 4, 2) := by decide +kernel
theorem dX0_takeFromRun_44 : decode cX0_takeFromRun 44 = .ok (.iconst 1, 1) := by decide +kernel
theorem dX0_takeFromRun_45 : decode cX0_takeFromRun 45 = .ok (.invokevirtual 163, 3) := by decide +kernel
theorem dX0_takeFromRun_48 : decode cX0_takeFromRun 48 = .ok (.aload_n 0, 1) := by decide +kernel
theorem dX0_takeFromRun_49 : decode cX0_takeFromRun 49 = .ok (.getfield 25, 3) := by decide +kernel
theorem dX0_takeFromRun_52 : decode cX0_takeFromRun 52 = .ok (.aload_n 0, 1) := by decide +kernel
theorem dX0_takeFromRun_53 : decode cX0_takeFromRun 53 = .ok (.getfield 176, 3) := by decide +kernel
theorem dX0_takeFromRun_56 : decode cX0_takeFromRun 56 = .ok (.iload 4, 2) := by decide +kernel
theorem dX0_takeFromRun_58 : decode cX0_takeFromRun 58 = .ok (.iastore, 1) := by decide +kernel
theorem dX0_takeFromRun_59 : decode cX0_takeFromRun 59 = .ok (.aload_n 0, 1) := by decide +kernel
theorem dX0_takeFromRun_60 : decode cX0_takeFromRun 60 = .ok (.dup, 1) := by decide +kernel
theorem dX0_takeFromRun_61 : decode cX0_takeFromRun 61 = .ok (.getfield 176, 3) := by decide +kernel
theorem dX0_takeFromRun_64 : decode cX0_takeFromRun 64 = .ok (.iconst 1, 1) := by decide +kernel
theorem dX0_takeFromRun_65 : decode cX0_takeFromRun 65 = .ok (.iadd, 1) := by decide +kernel
theorem dX0_takeFromRun_66 : decode cX0_takeFromRun 66 = .ok (.putfield 176, 3) := by decide +kernel
theorem dX0_takeFromRun_69 : decode cX0_takeFromRun 69 = .ok (.iinc 4 1, 3) := by decide +kernel
theorem dX0_takeFromRun_72 : decode cX0_takeFromRun 72 = .ok (.goto (-49), 3) := by decide +kernel
theorem dX0_takeFromRun_75 : decode cX0_takeFromRun 75 = .ok (.return_, 1) := by decide +kernel
theorem dX0_chooseNeedy_0 : decode cX0_chooseNeedy 0 = .ok (.aload_n 0, 1) := by decide +kernel
theorem dX0_chooseNeedy_1 : decode cX0_chooseNeedy 1 = .ok (.iconst 0, 1) := by decide +kernel
theorem dX0_chooseNeedy_2 : decode cX0_chooseNeedy 2 = .ok (.putfield 108, 3) := by decide +kernel
theorem dX0_chooseNeedy_5 : decode cX0_chooseNeedy 5 = .ok (.iload_n 2, 1) := by decide +kernel
theorem dX0_chooseNeedy_6 : decode cX0_chooseNeedy 6 = .ok (.istore 5, 2) := by decide +kernel
theorem dX0_chooseNeedy_8 : decode cX0_chooseNeedy 8 = .ok (.iload 5, 2) := by decide +kernel
theorem dX0_chooseNeedy_10 : decode cX0_chooseNeedy 10 = .ok (.iload_n 3, 1) := by decide +kernel
theorem dX0_chooseNeedy_11 : decode cX0_chooseNeedy 11 = .ok (.if_icmp .gt 18, 3) := by decide +kernel
theorem dX0_chooseNeedy_14 : decode cX0_chooseNeedy 14 = .ok (.aload_n 0, 1) := by decide +kernel
theorem dX0_chooseNeedy_15 : decode cX0_chooseNeedy 15 = .ok (.iload_n 1, 1) := by decide +kernel
theorem dX0_chooseNeedy_16 : decode cX0_chooseNeedy 16 = .ok (.iload 5, 2) := by decide +kernel
theorem dX0_chooseNeedy_18 : decode cX0_chooseNeedy 18 = .ok (.iload 4, 2) := by decide +kernel
theorem dX0_chooseNeedy_20 : decode cX0_chooseNeedy 20 = .ok (.invokevirtual 188, 3) := by decide +kernel
theorem dX0_chooseNeedy_23 : decode cX0_chooseNeedy 23 = .ok (.iinc 5 1, 3) := by decide +kernel
theorem dX0_chooseNeedy_26 : decode cX0_chooseNeedy 26 = .ok (.goto (-18), 3) := by decide +kernel
theorem dX0_chooseNeedy_29 : decode cX0_chooseNeedy 29 = .ok (.return_, 1) := by decide +kernel
theorem dX0_chooseCutThrough_0 : decode cX0_chooseCutThrough 0 = .ok (.aload_n 0, 1) := by decide +kernel
theorem dX0_chooseCutThrough_1 : decode cX0_chooseCutThrough 1 = .ok (.iconst 0, 1) := by decide +kernel
theorem dX0_chooseCutThrough_2 : decode cX0_chooseCutThrough 2 = .ok (.putfield 108, 3) := by decide +kernel
theorem dX0_chooseCutThrough_5 : decode cX0_chooseCutThrough 5 = .ok (.iload_n 2, 1) := by decide +kernel
theorem dX0_chooseCutThrough_6 : decode cX0_chooseCutThrough 6 = .ok (.iconst 4, 1) := by decide +kernel
theorem dX0_chooseCutThrough_7 : decode cX0_chooseCutThrough 7 = .ok (.idiv, 1) := by decide +kernel
theorem dX0_chooseCutThrough_8 : decode cX0_chooseCutThrough 8 = .ok (.istore 4, 2) := by decide +kernel
theorem dX0_chooseCutThrough_10 : decode cX0_chooseCutThrough 10 = .ok (.iload_n 2, 1) := by decide +kernel
theorem dX0_chooseCutThrough_11 : decode cX0_chooseCutThrough 11 = .ok (.iload_n 3, 1) := by decide +kernel
theorem dX0_chooseCutThrough_12 : decode cX0_chooseCutThrough 12 = .ok (.if_icmp .ge 37, 3) := by decide +kernel
theorem dX0_chooseCutThrough_15 : decode cX0_chooseCutThrough 15 = .ok (.iload 4, 2) := by decide +kernel
theorem dX0_chooseCutThrough_17 : decode cX0_chooseCutThrough 17 = .ok (.iconst 4, 1) := by decide +kernel
theorem dX0_chooseCutThrough_18 : decode cX0_chooseCutThrough 18 = .ok (.imul, 1) := by decide +kernel
theorem dX0_chooseCutThrough_19 : decode cX0_chooseCutThrough 19 = .ok (.iload_n 3, 1) := by decide +kernel
theorem dX0_chooseCutThrough_20 : decode cX0_chooseCutThrough 20 = .ok (.if_icmp .ge 29, 3) := by decide +kernel
theorem dX0_chooseCutThrough_23 : decode cX0_chooseCutThrough 23 = .ok (.aload_n 0, 1) := by decide +kernel
theorem dX0_chooseCutThrough_24 : decode cX0_chooseCutThrough 24 = .ok (.iload_n 1, 1) := by decide +kernel
theorem dX0_chooseCutThrough_25 : decode cX0_chooseCutThrough 25 = .ok (.iload 4, 2) := by decide +kernel
theorem dX0_chooseCutThrough_27 : decode cX0_chooseCutThrough 27 = .ok (.iload_n 2, 1) := by decide +kernel
theorem dX0_chooseCutThrough_28 : decode cX0_chooseCutThrough 28 = .ok (.iload_n 3, 1) := by decide +kernel
theorem dX0_chooseCutThrough_29 : decode cX0_chooseCutThrough 29 = .ok (.invokevirtual 192, 3) := by decide +kernel
theorem dX0_chooseCutThrough_32 : decode cX0_chooseCutThrough 32 = .ok (.ifCond .ne 11, 3) := by decide +kernel
theorem dX0_chooseCutThrough_35 : decode cX0_chooseCutThrough 35 = .ok (.aload_n 0, 1) := by decide +kernel
theorem dX0_chooseCutThrough_36 : decode cX0_chooseCutThrough 36 = .ok (.iload_n 1, 1) := by decide +kernel
theorem dX0_chooseCutThrough_37 : decode cX0_chooseCutThrough 37 = .ok (.iload 4, 2) := by decide +kernel
theorem dX0_chooseCutThrough_39 : decode cX0_chooseCutThrough 39 = .ok (.iconst 0, 1) := by decide +kernel
theorem dX0_chooseCutThrough_40 : decode cX0_chooseCutThrough 40 = .ok (.invokevirtual 188, 3) := by decide +kernel
theorem dX0_chooseCutThrough_43 : decode cX0_chooseCutThrough 43 = .ok (.iinc 4 1, 3) := by decide +kernel
theorem dX0_chooseCutThrough_46 : decode cX0_chooseCutThrough 46 = .ok (.goto (-36), 3) := by decide +kernel
theorem dX0_chooseCutThrough_49 : decode cX0_chooseCutThrough 49 = .ok (.return_, 1) := by decide +kernel
theorem dX0_addIfNeedy_0 : decode cX0_addIfNeedy 0 = .ok (.aload_n 0, 1) := by decide +kernel
theorem dX0_addIfNeedy_1 : decode cX0_addIfNeedy 1 = .ok (.iload_n 1, 1) := by decide +kernel
theorem dX0_addIfNeedy_2 : decode cX0_addIfNeedy 2 = .ok (.iload_n 2, 1) := by decide +kernel
theorem dX0_addIfNeedy_3 : decode cX0_addIfNeedy 3 = .ok (.invokevirtual 40, 3) := by decide +kernel
theorem dX0_addIfNeedy_6 : decode cX0_addIfNeedy 6 = .ok (.istore 4, 2) := by decide +kernel
theorem dX0_addIfNeedy_8 : decode cX0_addIfNeedy 8 = .ok (.iload 4, 2) := by decide +kernel
theorem dX0_addIfNeedy_10 : decode cX0_addIfNeedy 10 = .ok (.invokestatic 136, 3) := by decide +kernel
theorem dX0_addIfNeedy_13 : decode cX0_addIfNeedy 13 = .ok (.ifCond .eq 21, 3) := by decide +kernel
theorem dX0_addIfNeedy_16 : decode cX0_addIfNeedy 16 = .ok (.aload_n 0, 1) := by decide +kernel
theorem dX0_addIfNeedy_17 : decode cX0_addIfNeedy 17 = .ok (.iload 4, 2) := by decide +kernel
theorem dX0_addIfNeedy_19 : decode cX0_addIfNeedy 19 = .ok (.invokevirtual 142, 3) := by decide +kernel
theorem dX0_addIfNeedy_22 : decode cX0_addIfNeedy 22 = .ok (.iconst 1, 1) := by decide +kernel
theorem dX0_addIfNeedy_23 : decode cX0_addIfNeedy 23 = .ok (.if_icmp .le 7, 3) := by decide +kernel
theorem dX0_addIfNeedy_26 : decode cX0_addIfNeedy 26 = .ok (.iconst 1, 1) := by decide +kernel
theorem dX0_addIfNeedy_27 : decode cX0_addIfNeedy 27 = .ok (.goto 8, 3) := by decide +kernel
theorem dX0_addIfNeedy_30 : decode cX0_addIfNeedy 30 = .ok (.iconst 0, 1) := by decide +kernel
theorem dX0_addIfNeedy_31 : decode cX0_addIfNeedy 31 = .ok (.goto 4, 3) := by decide +kernel
theorem dX0_addIfNeedy_34 : decode cX0_addIfNeedy 34 = .ok (.iload_n 3, 1) := by decide +kernel
theorem dX0_addIfNeedy_35 : decode cX0_addIfNeedy 35 = .ok (.istore 5, 2) := by decide +kernel
theorem dX0_addIfNeedy_37 : decode cX0_addIfNeedy 37 = .ok (.iload 5, 2) := by decide +kernel
theorem dX0_addIfNeedy_39 : decode cX0_addIfNeedy 39 = .ok (.ifCond .eq 35, 3) := by decide +kernel
theorem dX0_addIfNeedy_42 : decode cX0_addIfNeedy 42 = .ok (.aload_n 0, 1) := by decide +kernel
theorem dX0_addIfNeedy_43 : decode cX0_addIfNeedy 43 = .ok (.getfield 108, 3) := by decide +kernel
theorem dX0_addIfNeedy_46 : decode cX0_addIfNeedy 46 = .ok (.aload_n 0, 1) := by decide +kernel
theorem dX0_addIfNeedy_47 : decode cX0_addIfNeedy 47 = .ok (.getfield 22, 3) := by decide +kernel
theorem dX0_addIfNeedy_50 : decode cX0_addIfNeedy 50 = .ok (.arraylength, 1) := by decide +kernel
theorem dX0_addIfNeedy_51 : decode cX0_addIfNeedy 51 = .ok (.if_icmp .ge 23, 3) := by decide +kernel
theorem dX0_addIfNeedy_54 : decode cX0_addIfNeedy 54 = .ok (.aload_n 0, 1) := by decide +kernel
theorem dX0_addIfNeedy_55 : decode cX0_addIfNeedy 55 = .ok (.getfield 22, 3) := by decide +kernel
theorem dX0_addIfNeedy_58 : decode cX0_addIfNeedy 58 = .ok (.aload_n 0, 1) := by decide +kernel
theorem dX0_addIfNeedy_59 : decode cX0_addIfNeedy 59 = .ok (.getfield 108, 3) := by decide +kernel
theorem dX0_addIfNeedy_62 : decode cX0_addIfNeedy 62 = .ok (.iload_n 2, 1) := by decide +kernel
theorem dX0_addIfNeedy_63 : decode cX0_addIfNeedy 63 = .ok (.iastore, 1) := by decide +kernel
theorem dX0_addIfNeedy_64 : decode cX0_addIfNeedy 64 = .ok (.aload_n 0, 1) := by decide +kernel
theorem dX0_addIfNeedy_65 : decode cX0_addIfNeedy 65 = .ok (.dup, 1) := by decide +kernel
theorem dX0_addIfNeedy_66 : decode cX0_addIfNeedy 66 = .ok (.getfield 108, 3) := by decide +kernel
theorem dX0_addIfNeedy_69 : decode cX0_addIfNeedy 69 = .ok (.iconst 1, 1) := by decide +kernel
theorem dX0_addIfNeedy_70 : decode cX0_addIfNeedy 70 = .ok (.iadd, 1) := by decide +kernel
theorem dX0_addIfNeedy_71 : decode cX0_addIfNeedy 71 = .ok (.putfield 108, 3) := by decide +kernel
theorem dX0_addIfNeedy_74 : decode cX0_addIfNeedy 74 = .ok (.return_, 1) := by decide +kernel
theorem dX0_isSpent_0 : decode cX0_isSpent 0 = .ok (.aload_n 0, 1) := by decide +kernel
theorem dX0_isSpent_1 : decode cX0_isSpent 1 = .ok (.getfield 108, 3) := by decide +kernel
theorem dX0_isSpent_4 : decode cX0_isSpent 4 = .ok (.aload_n 0, 1) := by decide +kernel
theorem dX0_isSpent_5 : decode cX0_isSpent 5 = .ok (.invokevirtual 152, 3) := by decide +kernel
theorem dX0_isSpent_8 : decode cX0_isSpent 8 = .ok (.if_icmp .le 7, 3) := by decide +kernel
theorem dX0_isSpent_11 : decode cX0_isSpent 11 = .ok (.iconst 1, 1) := by decide +kernel
theorem dX0_isSpent_12 : decode cX0_isSpent 12 = .ok (.goto 4, 3) := by decide +kernel
theorem dX0_isSpent_15 : decode cX0_isSpent 15 = .ok (.iconst 0, 1) := by decide +kernel
theorem dX0_isSpent_16 : decode cX0_isSpent 16 = .ok (.ireturn, 1) := by decide +kernel
theorem dX0_ownNeedy_0 : decode cX0_ownNeedy 0 = .ok (.aload_n 0, 1) := by decide +kernel
theorem dX0_ownNeedy_1 : decode cX0_ownNeedy 1 = .ok (.aload_n 0, 1) := by decide +kernel
theorem dX0_ownNeedy_2 : decode cX0_ownNeedy 2 = .ok (.getfield 108, 3) := by decide +kernel
theorem dX0_ownNeedy_5 : decode cX0_ownNeedy 5 = .ok (.invokevirtual 196, 3) := by decide +kernel
theorem dX0_ownNeedy_8 : decode cX0_ownNeedy 8 = .ok (.iconst 0, 1) := by decide +kernel
theorem dX0_ownNeedy_9 : decode cX0_ownNeedy 9 = .ok (.istore_n 2, 1) := by decide +kernel
theorem dX0_ownNeedy_10 : decode cX0_ownNeedy 10 = .ok (.iload_n 2, 1) := by decide +kernel
theorem dX0_ownNeedy_11 : decode cX0_ownNeedy 11 = .ok (.aload_n 0, 1) := by decide +kernel
theorem dX0_ownNeedy_12 : decode cX0_ownNeedy 12 = .ok (.getfield 108, 3) := by decide +kernel
theorem dX0_ownNeedy_15 : decode cX0_ownNeedy 15 = .ok (.if_icmp .ge 34, 3) := by decide +kernel
theorem dX0_ownNeedy_18 : decode cX0_ownNeedy 18 = .ok (.iload_n 2, 1) := by decide +kernel
theorem dX0_ownNeedy_19 : decode cX0_ownNeedy 19 = .ok (.aload_n 0, 1) := by decide +kernel
theorem dX0_ownNeedy_20 : decode cX0_ownNeedy 20 = .ok (.getfield 176, 3) := by decide +kernel
theorem dX0_ownNeedy_23 : decode cX0_ownNeedy 23 = .ok (.if_icmp .ge 26, 3) := by decide +kernel
theorem dX0_ownNeedy_26 : decode cX0_ownNeedy 26 = .ok (.aload_n 0, 1) := by decide +kernel
theorem dX0_ownNeedy_27 : decode cX0_ownNeedy 27 = .ok (.iload_n 1, 1) := by decide +kernel
theorem dX0_ownNeedy_28 : decode cX0_ownNeedy 28 = .ok (.aload_n 0, 1) := by decide +kernel
theorem dX0_ownNeedy_29 : decode cX0_ownNeedy 29 = .ok (.getfield 22, 3) := by decide +kernel
theorem dX0_ownNeedy_32 : decode cX0_ownNeedy 32 = .ok (.iload_n 2, 1) := by decide +kernel
theorem dX0_ownNeedy_33 : decode cX0_ownNeedy 33 = .ok (.iaload, 1) := by decide +kernel
theorem dX0_ownNeedy_34 : decode cX0_ownNeedy 34 = .ok (.aload_n 0, 1) := by decide +kernel
theorem dX0_ownNeedy_35 : decode cX0_ownNeedy 35 = .ok (.getfield 25, 3) := by decide +kernel
theorem dX0_ownNeedy_38 : decode cX0_ownNeedy 38 = .ok (.iload_n 2, 1) := by decide +kernel
theorem dX0_ownNeedy_39 : decode cX0_ownNeedy 39 = .ok (.iaload, 1) := by decide +kernel
theorem dX0_ownNeedy_40 : decode cX0_ownNeedy 40 = .ok (.invokevirtual 199, 3) := by decide +kernel
theorem dX0_ownNeedy_43 : decode cX0_ownNeedy 43 = .ok (.iinc 2 1, 3) := by decide +kernel
theorem dX0_ownNeedy_46 : decode cX0_ownNeedy 46 = .ok (.goto (-36), 3) := by decide +kernel
theorem dX0_ownNeedy_49 : decode cX0_ownNeedy 49 = .ok (.return_, 1) := by decide +kernel
theorem dX0_giveBlock_0 : decode cX0_giveBlock 0 = .ok (.aload_n 0, 1) := by decide +kernel
theorem dX0_giveBlock_1 : decode cX0_giveBlock 1 = .ok (.iload_n 1, 1) := by decide +kernel
theorem dX0_giveBlock_2 : decode cX0_giveBlock 2 = .ok (.iload_n 2, 1) := by decide +kernel
theorem dX0_giveBlock_3 : decode cX0_giveBlock 3 = .ok (.invokevirtual 40, 3) := by decide +kernel
theorem dX0_giveBlock_6 : decode cX0_giveBlock 6 = .ok (.istore 4, 2) := by decide +kernel
theorem dX0_giveBlock_8 : decode cX0_giveBlock 8 = .ok (.iconst 0, 1) := by decide +kernel
theorem dX0_giveBlock_9 : decode cX0_giveBlock 9 = .ok (.istore 5, 2) := by decide +kernel
theorem dX0_giveBlock_11 : decode cX0_giveBlock 11 = .ok (.iload 5, 2) := by decide +kernel
theorem dX0_giveBlock_13 : decode cX0_giveBlock 13 = .ok (.iconst 4, 1) := by decide +kernel
theorem dX0_giveBlock_14 : decode cX0_giveBlock 14 = .ok (.if_icmp .ge 24, 3) := by decide +kernel
theorem dX0_giveBlock_17 : decode cX0_giveBlock 17 = .ok (.aload_n 0, 1) := by decide +kernel
theorem dX0_giveBlock_18 : decode cX0_giveBlock 18 = .ok (.iload_n 3, 1) := by decide +kernel
theorem dX0_giveBlock_19 : decode cX0_giveBlock 19 = .ok (.iload 5, 2) := by decide +kernel
theorem dX0_giveBlock_21 : decode cX0_giveBlock 21 = .ok (.aload_n 0, 1) := by decide +kernel
theorem dX0_giveBlock_22 : decode cX0_giveBlock 22 = .ok (.iload 4, 2) := by decide +kernel
theorem dX0_giveBlock_24 : decode cX0_giveBlock 24 = .ok (.iload 5, 2) := by decide +kernel
theorem dX0_giveBlock_26 : decode cX0_giveBlock 26 = .ok (.invokevirtual 44, 3) := by decide +kernel
theorem dX0_giveBlock_29 : decode cX0_giveBlock 29 = .ok (.invokevirtual 202, 3) := by decide +kernel
theorem dX0_giveBlock_32 : decode cX0_giveBlock 32 = .ok (.iinc 5 1, 3) := by decide +kernel
theorem dX0_giveBlock_35 : decode cX0_giveBlock 35 = .ok (.goto (-24), 3) := by decide +kernel
theorem dX0_giveBlock_38 : decode cX0_giveBlock 38 = .ok (.aload_n 0, 1) := by decide +kernel
theorem dX0_giveBlock_39 : decode cX0_giveBlock 39 = .ok (.iload_n 1, 1) := by decide +kernel
theorem dX0_giveBlock_40 : decode cX0_giveBlock 40 = .ok (.iload_n 2, 1) := by decide +kernel
theorem dX0_giveBlock_41 : decode cX0_giveBlock 41 = .ok (.iload_n 3, 1) := by decide +kernel
theorem dX0_giveBlock_42 : decode cX0_giveBlock 42 = .ok (.invokevirtual 94, 3) := by decide +kernel
theorem dX0_giveBlock_45 : decode cX0_giveBlock 45 = .ok (.aload_n 0, 1) := by decide +kernel
theorem dX0_giveBlock_46 : decode cX0_giveBlock 46 = .ok (.iload_n 3, 1) := by decide +kernel
theorem dX0_giveBlock_47 : decode cX0_giveBlock 47 = .ok (.iconst (-1), 1) := by decide +kernel
theorem dX0_giveBlock_48 : decode cX0_giveBlock 48 = .ok (.invokevirtual 163, 3) := by decide +kernel
theorem dX0_giveBlock_51 : decode cX0_giveBlock 51 = .ok (.return_, 1) := by decide +kernel
theorem dX0_setCells_0 : decode cX0_setCells 0 = .ok (.iload_n 2, 1) := by decide +kernel
theorem dX0_setCells_1 : decode cX0_setCells 1 = .ok (.istore 5, 2) := by decide +kernel
theorem dX0_setCells_3 : decode cX0_setCells 3 = .ok (.iload 5, 2) := by decide +kernel
theorem dX0_setCells_5 : decode cX0_setCells 5 = .ok (.iload_n 3, 1) := by decide +kernel
theorem dX0_setCells_6 : decode cX0_setCells 6 = .ok (.if_icmp .ge 28, 3) := by decide +kernel
theorem dX0_setCells_9 : decode cX0_setCells 9 = .ok (.aload_n 0, 1) := by decide +kernel
theorem dX0_setCells_10 : decode cX0_setCells 10 = .ok (.aload_n 0, 1) := by decide +kernel
theorem dX0_setCells_11 : decode cX0_setCells 11 = .ok (.iload_n 1, 1) := by decide +kernel
theorem dX0_setCells_12 : decode cX0_setCells 12 = .ok (.iload 5, 2) := by decide +kernel
theorem dX0_setCells_14 : decode cX0_setCells 14 = .ok (.iconst 4, 1) := by decide +kernel
theorem dX0_setCells_15 : decode cX0_setCells 15 = .ok (.idiv, 1) := by decide +kernel
theorem dX0_setCells_16 : decode cX0_setCells 16 = .ok (.invokevirtual 40, 3) := by decide +kernel
theorem dX0_setCells_19 : decode cX0_setCells 19 = .ok (.iload 5, 2) := by decide +kernel
theorem dX0_setCells_21 : decode cX0_setCells 21 = .ok (.iconst 4, 1) := by decide +kernel
theorem dX0_setCells_22 : decode cX0_setCells 22 = .ok (.irem, 1) := by decide +kernel
theorem dX0_setCells_23 : decode cX0_setCells 23 = .ok (.iload 4, 2) := by decide +kernel
theorem dX0_setCells_25 : decode cX0_setCells 25 = .ok (.invokevirtual 202, 3) := by decide +kernel
theorem dX0_setCells_28 : decode cX0_setCells 28 = .ok (.iinc 5 1, 3) := by decide +kernel
theorem dX0_setCells_31 : decode cX0_setCells 31 = .ok (.goto (-28), 3) := by decide +kernel
theorem dX0_setCells_34 : decode cX0_setCells 34 = .ok (.return_, 1) := by decide +kernel
theorem dX0_isAllIn_0 : decode cX0_isAllIn 0 = .ok (.iload_n 3, 1) := by decide +kernel
theorem dX0_isAllIn_1 : decode cX0_isAllIn 1 = .ok (.iload_n 2, 1) := by decide +kernel
theorem dX0_isAllIn_2 : decode cX0_isAllIn 2 = .ok (.iconst 4, 1) := by decide +kernel
theorem dX0_isAllIn_3 : decode cX0_isAllIn 3 = .ok (.imul, 1) := by decide +kernel
theorem dX0_isAllIn_4 : decode cX0_isAllIn 4 = .ok (.if_icmp .gt 25, 3) := by decide +kernel
theorem dX0_isAllIn_7 : decode cX0_isAllIn 7 = .ok (.iload_n 2, 1) := by decide +kernel
theorem dX0_isAllIn_8 : decode cX0_isAllIn 8 = .ok (.iconst 1, 1) := by decide +kernel
theorem dX0_isAllIn_9 : decode cX0_isAllIn 9 = .ok (.iadd, 1) := by decide +kernel
theorem dX0_isAllIn_10 : decode cX0_isAllIn 10 = .ok (.iconst 4, 1) := by decide +kernel
theorem dX0_isAllIn_11 : decode cX0_isAllIn 11 = .ok (.imul, 1) := by decide +kernel
theorem dX0_isAllIn_12 : decode cX0_isAllIn 12 = .ok (.aload_n 0, 1) := by decide +kernel
theorem dX0_isAllIn_13 : decode cX0_isAllIn 13 = .ok (.iload_n 1, 1) := by decide +kernel
theorem dX0_isAllIn_14 : decode cX0_isAllIn 14 = .ok (.invokevirtual 36, 3) := by decide +kernel
theorem dX0_isAllIn_17 : decode cX0_isAllIn 17 = .ok (.invokestatic 86, 3) := by decide +kernel
theorem dX0_isAllIn_20 : decode cX0_isAllIn 20 = .ok (.iload 4, 2) := by decide +kernel
theorem dX0_isAllIn_22 : decode cX0_isAllIn 22 = .ok (.if_icmp .gt 7, 3) := by decide +kernel
theorem dX0_isAllIn_25 : decode cX0_isAllIn 25 = .ok (.iconst 1, 1) := by decide +kernel
theorem dX0_isAllIn_26 : decode cX0_isAllIn 26 = .ok (.goto 4, 3) := by decide +kernel
theorem dX0_isAllIn_29 : decode cX0_isAllIn 29 = .ok (.iconst 0, 1) := by decide +kernel
theorem dX0_isAllIn_30 : decode cX0_isAllIn 30 = .ok (.ireturn, 1) := by decide +kernel
theorem dX0_clearCells_0 : decode cX0_clearCells 0 = .ok (.iconst 0, 1) := by decide +kernel
theorem dX0_clearCells_1 : decode cX0_clearCells 1 = .ok (.istore 4, 2) := by decide +kernel
theorem dX0_clearCells_3 : decode cX0_clearCells 3 = .ok (.iload_n 2, 1) := by decide +kernel
theorem dX0_clearCells_4 : decode cX0_clearCells 4 = .ok (.iconst 4, 1) := by decide +kernel
theorem dX0_clearCells_5 : decode cX0_clearCells 5 = .ok (.idiv, 1) := by decide +kernel
theorem dX0_clearCells_6 : decode cX0_clearCells 6 = .ok (.istore 5, 2) := by decide +kernel
theorem dX0_clearCells_8 : decode cX0_clearCells 8 = .ok (.iload_n 2, 1) := by decide +kernel
theorem dX0_clearCells_9 : decode cX0_clearCells 9 = .ok (.iload_n 3, 1) := by decide +kernel
theorem dX0_clearCells_10 : decode cX0_clearCells 10 = .ok (.if_icmp .ge 81, 3) := by decide +kernel
theorem dX0_clearCells_13 : decode cX0_clearCells 13 = .ok (.iload 5, 2) := by decide +kernel
theorem dX0_clearCells_15 : decode cX0_clearCells 15 = .ok (.iconst 4, 1) := by decide +kernel
theorem dX0_clearCells_16 : decode cX0_clearCells 16 = .ok (.imul, 1) := by decide +kernel
theorem dX0_clearCells_17 : decode cX0_clearCells 17 = .ok (.iload_n 3, 1) := by decide +kernel
theorem dX0_clearCells_18 : decode cX0_clearCells 18 = .ok (.if_icmp .ge 73, 3) := by decide +kernel
theorem dX0_clearCells_21 : decode cX0_clearCells 21 = .ok (.aload_n 0, 1) := by decide +kernel
theorem dX0_clearCells_22 : decode cX0_clearCells 22 = .ok (.iload_n 1, 1) := by decide +kernel
theorem dX0_clearCells_23 : decode cX0_clearCells 23 = .ok (.iload 5, 2) := by decide +kernel
theorem dX0_clearCells_25 : decode cX0_clearCells 25 = .ok (.iload_n 2, 1) := by decide +kernel
theorem dX0_clearCells_26 : decode cX0_clearCells 26 = .ok (.iload_n 3, 1) := by decide +kernel
theorem dX0_clearCells_27 : decode cX0_clearCells 27 = .ok (.invokevirtual 192, 3) := by decide +kernel
theorem dX0_clearCells_30 : decode cX0_clearCells 30 = .ok (.ifCond .ne 30, 3) := by decide +kernel
theorem dX0_clearCells_33 : decode cX0_clearCells 33 = .ok (.aload_n 0, 1) := by decide +kernel
theorem dX0_clearCells_34 : decode cX0_clearCells 34 = .ok (.iload_n 1, 1) := by decide +kernel
theorem dX0_clearCells_35 : decode cX0_clearCells 35 = .ok (.iload_n 2, 1) := by decide +kernel
theorem dX0_clearCells_36 : decode cX0_clearCells 36 = .ok (.iload 5, 2) := by decide +kernel
theorem dX0_clearCells_38 : decode cX0_clearCells 38 = .ok (.iconst 4, 1) := by decide +kernel
theorem dX0_clearCells_39 : decode cX0_clearCells 39 = .ok (.imul, 1) := by decide +kernel
theorem dX0_clearCells_40 : decode cX0_clearCells 40 = .ok (.invokestatic 139, 3) := by decide +kernel
theorem dX0_clearCells_43 : decode cX0_clearCells 43 = .ok (.iload_n 3, 1) := by decide +kernel
theorem dX0_clearCells_44 : decode cX0_clearCells 44 = .ok (.iload 5, 2) := by decide +kernel
theorem dX0_clearCells_46 : decode cX0_clearCells 46 = .ok (.iconst 1, 1) := by decide +kernel
theorem dX0_clearCells_47 : decode cX0_clearCells 47 = .ok (.iadd, 1) := by decide +kernel
theorem dX0_clearCells_48 : decode cX0_clearCells 48 = .ok (.iconst 4, 1) := by decide +kernel
theorem dX0_clearCells_49 : decode cX0_clearCells 49 = .ok (.imul, 1) := by decide +kernel
theorem dX0_clearCells_50 : decode cX0_clearCells 50 = .ok (.invokestatic 86, 3) := by decide +kernel
theorem dX0_clearCells_53 : decode cX0_clearCells 53 = .ok (.iconst 0, 1) := by decide +kernel
theorem dX0_clearCells_54 : decode cX0_clearCells 54 = .ok (.invokevirtual 67, 3) := by decide +kernel
theorem dX0_clearCells_57 : decode cX0_clearCells 57 = .ok (.goto 28, 3) := by decide +kernel
theorem dX0_clearCells_60 : decode cX0_clearCells 60 = .ok (.aload_n 0, 1) := by decide +kernel
theorem dX0_clearCells_61 : decode cX0_clearCells 61 = .ok (.iload_n 1, 1) := by decide +kernel
theorem dX0_clearCells_62 : decode cX0_clearCells 62 = .ok (.iload 5, 2) := by decide +kernel
theorem dX0_clearCells_64 : decode cX0_clearCells 64 = .ok (.invokevirtual 40, 3) := by decide +kernel
theorem dX0_clearCells_67 : decode cX0_clearCells 67 = .ok (.invokestatic 136, 3) := by decide +kernel
theorem dX0_clearCells_70 : decode cX0_clearCells 70 = .ok (.ifCond .eq 15, 3) := by decide +kernel
theorem dX0_clearCells_73 : decode cX0_clearCells 73 = .ok (.aload_n 0, 1) := by decide +kernel
theorem dX0_clearCells_74 : decode cX0_clearCells 74 = .ok (.iload_n 1, 1) := by decide +kernel
theorem dX0_clearCells_75 : decode cX0_clearCells 75 = .ok (.iload 5, 2) := by decide +kernel
theorem dX0_clearCells_77 : decode cX0_clearCells 77 = .ok (.bipush (-9), 2) := by decide +kernel
theorem dX0_clearCells_79 : decode cX0_clearCells 79 = .ok (.invokevirtual 94, 3) := by decide +kernel
theorem dX0_clearCells_82 : decode cX0_clearCells 82 = .ok (.iinc 4 1, 3) := by decide +kernel
theorem dX0_clearCells_85 : decode cX0_clearCells 85 = .ok (.iinc 5 1, 3) := by decide +kernel
theorem dX0_clearCells_88 : decode cX0_clearCells 88 = .ok (.goto (-80), 3) := by decide +kernel
theorem dX0_clearCells_91 : decode cX0_clearCells 91 = .ok (.iload 4, 2) := by decide +kernel
theorem dX0_clearCells_93 : decode cX0_clearCells 93 = .ok (.ireturn, 1) := by decide +kernel
theorem dX0_openLog_0 : decode cX0_openLog 0 = .ok (.aload_n 0, 1) := by decide +kernel
theorem dX0_openLog_1 : decode cX0_openLog 1 = .ok (.iload_n 1, 1) := by decide +kernel
theorem dX0_openLog_2 : decode cX0_openLog 2 = .ok (.putfield 205, 3) := by decide +kernel
theorem dX0_openLog_5 : decode cX0_openLog 5 = .ok (.aload_n 0, 1) := by decide +kernel
theorem dX0_openLog_6 : decode cX0_openLog 6 = .ok (.iload_n 2, 1) := by decide +kernel
theorem dX0_openLog_7 : decode cX0_openLog 7 = .ok (.putfield 208, 3) := by decide +kernel
theorem dX0_openLog_10 : decode cX0_openLog 10 = .ok (.aload_n 0, 1) := by decide +kernel
theorem dX0_openLog_11 : decode cX0_openLog 11 = .ok (.iload_n 3, 1) := by decide +kernel
theorem dX0_openLog_12 : decode cX0_openLog 12 = .ok (.putfield 211, 3) := by decide +kernel
theorem dX0_openLog_15 : decode cX0_openLog 15 = .ok (.aload_n 0, 1) := by decide +kernel
theorem dX0_openLog_16 : decode cX0_openLog 16 = .ok (.iload 4, 2) := by decide +kernel
theorem dX0_openLog_18 : decode cX0_openLog 18 = .ok (.putfield 214, 3) := by decide +kernel
theorem dX0_openLog_21 : decode cX0_openLog 21 = .ok (.aload_n 0, 1) := by decide +kernel
theorem dX0_openLog_22 : decode cX0_openLog 22 = .ok (.iload 5, 2) := by decide +kernel
theorem dX0_openLog_24 : decode cX0_openLog 24 = .ok (.putfield 121, 3) := by decide +kernel
theorem dX0_openLog_27 : decode cX0_openLog 27 = .ok (.return_, 1) := by decide +kernel
theorem dX0_doSteps_0 : decode cX0_doSteps 0 = .ok (.iload_n 1, 1) := by decide +kernel
theorem dX0_doSteps_1 : decode cX0_doSteps 1 = .ok (.istore_n 3, 1) := by decide +kernel
theorem dX0_doSteps_2 : decode cX0_doSteps 2 = .ok (.iload_n 3, 1) := by decide +kernel
theorem dX0_doSteps_3 : decode cX0_doSteps 3 = .ok (.iload_n 2, 1) := by decide +kernel
theorem dX0_doSteps_4 : decode cX0_doSteps 4 = .ok (.if_icmp .ge 73, 3) := by decide +kernel
theorem dX0_doSteps_7 : decode cX0_doSteps 7 = .ok (.aload_n 0, 1) := by decide +kernel
theorem dX0_doSteps_8 : decode cX0_doSteps 8 = .ok (.aload_n 0, 1) := by decide +kernel
theorem dX0_doSteps_9 : decode cX0_doSteps 9 = .ok (.getfield 205, 3) := by decide +kernel
theorem dX0_doSteps_12 : decode cX0_doSteps 12 = .ok (.aload_n 0, 1) := by decide +kernel
theorem dX0_doSteps_13 : decode cX0_doSteps 13 = .ok (.getfield 208, 3) := by decide +kernel
theorem dX0_doSteps_16 : decode cX0_doSteps 16 = .ok (.iload_n 3, 1) := by decide +kernel
theorem dX0_doSteps_17 : decode cX0_doSteps 17 = .ok (.iadd, 1) := by decide +kernel
theorem dX0_doSteps_18 : decode cX0_doSteps 18 = .ok (.invokevirtual 40, 3) := by decide +kernel
theorem dX0_doSteps_21 : decode cX0_doSteps 21 = .ok (.istore 4, 2) := by decide +kernel
theorem dX0_doSteps_23 : decode cX0_doSteps 23 = .ok (.aload_n 0, 1) := by decide +kernel
theorem dX0_doSteps_24 : decode cX0_doSteps 24 = .ok (.aload_n 0, 1) := by decide +kernel
theorem dX0_doSteps_25 : decode cX0_doSteps 25 = .ok (.getfield 211, 3) := by decide +kernel
theorem dX0_doSteps_28 : decode cX0_doSteps 28 = .ok (.aload_n 0, 1) := by decide +kernel
theorem dX0_doSteps_29 : decode cX0_doSteps 29 = .ok (.getfield 214, 3) := by decide +kernel
theorem dX0_doSteps_32 : decode cX0_doSteps 32 = .ok (.iload_n 3, 1) := by decide +kernel
theorem dX0_doSteps_33 : decode cX0_doSteps 33 = .ok (.iadd, 1) := by decide +kernel
theorem dX0_doSteps_34 : decode cX0_doSteps 34 = .ok (.invokevirtual 40, 3) := by decide +kernel
theorem dX0_doSteps_37 : decode cX0_doSteps 37 = .ok (.istore 5, 2) := by decide +kernel
theorem dX0_doSteps_39 : decode cX0_doSteps 39 = .ok (.aload_n 0, 1) := by decide +kernel
theorem dX0_doSteps_40 : decode cX0_doSteps 40 = .ok (.aload_n 0, 1) := by decide +kernel
theorem dX0_doSteps_41 : decode cX0_doSteps 41 = .ok (.getfield 205, 3) := by decide +kernel
theorem dX0_doSteps_44 : decode cX0_doSteps 44 = .ok (.aload_n 0, 1) := by decide +kernel
theorem dX0_doSteps_45 : decode cX0_doSteps 45 = .ok (.getfield 208, 3) := by decide +kernel
theorem dX0_doSteps_48 : decode cX0_doSteps 48 = .ok (.iload_n 3, 1) := by decide +kernel
theorem dX0_doSteps_49 : decode cX0_doSteps 49 = .ok (.iadd, 1) := by decide +kernel
theorem dX0_doSteps_50 : decode cX0_doSteps 50 = .ok (.iload 5, 2) := by decide +kernel
theorem dX0_doSteps_52 : decode cX0_doSteps 52 = .ok (.invokevirtual 94, 3) := by decide +kernel
theorem dX0_doSteps_55 : decode cX0_doSteps 55 = .ok (.aload_n 0, 1) := by decide +kernel
theorem dX0_doSteps_56 : decode cX0_doSteps 56 = .ok (.aload_n 0, 1) := by decide +kernel
theorem dX0_doSteps_57 : decode cX0_doSteps 57 = .ok (.getfield 211, 3) := by decide +kernel
theorem dX0_doSteps_60 : decode cX0_doSteps 60 = .ok (.aload_n 0, 1) := by decide +kernel
theorem dX0_doSteps_61 : decode cX0_doSteps 61 = .ok (.getfield 214, 3) := by decide +kernel
theorem dX0_doSteps_64 : decode cX0_doSteps 64 = .ok (.iload_n 3, 1) := by decide +kernel
theorem dX0_doSteps_65 : decode cX0_doSteps 65 = .ok (.iadd, 1) := by decide +kernel
theorem dX0_doSteps_66 : decode cX0_doSteps 66 = .ok (.iload 4, 2) := by decide +kernel
theorem dX0_doSteps_68 : decode cX0_doSteps 68 = .ok (.invokevirtual 94, 3) := by decide +kernel
theorem dX0_doSteps_71 : decode cX0_doSteps 71 = .ok (.iinc 3 1, 3) := by decide +kernel
theorem dX0_doSteps_74 : decode cX0_doSteps 74 = .ok (.goto (-72), 3) := by decide +kernel
theorem dX0_doSteps_77 : decode cX0_doSteps 77 = .ok (.return_, 1) := by decide +kernel
theorem dX1_init_0 : decode cX1_init 0 = .ok (.aload_n 0, 1) := by decide +kernel
theorem dX1_init_1 : decode cX1_init 1 = .ok (.invokespecial 1, 3) := by decide +kernel
theorem dX1_init_4 : decode cX1_init 4 = .ok (.aload_n 0, 1) := by decide +kernel
theorem dX1_init_5 : decode cX1_init 5 = .ok (.sipush 192, 3) := by decide +kernel
theorem dX1_init_8 : decode cX1_init 8 = .ok (.newarray .int, 2) := by decide +kernel
theorem dX1_init_10 : decode cX1_init 10 = .ok (.putfield 7, 3) := by decide +kernel
theorem dX1_init_13 : decode cX1_init 13 = .ok (.aload_n 0, 1) := by decide +kernel
theorem dX1_init_14 : decode cX1_init 14 = .ok (.iconst 4, 1) := by decide +kernel
theorem dX1_init_15 : decode cX1_init 15 = .ok (.newarray .int, 2) := by decide +kernel
theorem dX1_init_17 : decode cX1_init 17 = .ok (.putfield 13, 3) := by decide +kernel
theorem dX1_init_20 : decode cX1_init 20 = .ok (.aload_n 0, 1) := by decide +kernel
theorem dX1_init_21 : decode cX1_init 21 = .ok (.bipush 96, 2) := by decide +kernel
theorem dX1_init_23 : decode cX1_init 23 = .ok (.newarray .int, 2) := by decide +kernel
theorem dX1_init_25 : decode cX1_init 25 = .ok (.putfield 16, 3) := by decide +kernel
theorem dX1_init_28 : decode cX1_init 28 = .ok (.aload_n 0, 1) := by decide +kernel
theorem dX1_init_29 : decode cX1_init 29 = .ok (.bipush 24, 2) := by decide +kernel
theorem dX1_init_31 : decode cX1_init 31 = .ok (.newarray .int, 2) := by decide +kernel
theorem dX1_init_33 : decode cX1_init 33 = .ok (.putfield 19, 3) := by decide +kernel
theorem dX1_init_36 : decode cX1_init 36 = .ok (.aload_n 0, 1) := by decide +kernel
theorem dX1_init_37 : decode cX1_init 37 = .ok (.bipush 48, 2) := by decide +kernel
theorem dX1_init_39 : decode cX1_init 39 = .ok (.newarray .boolean, 2) := by decide +kernel
theorem dX1_init_41 : decode cX1_init 41 = .ok (.putfield 22, 3) := by decide +kernel
theorem dX1_init_44 : decode cX1_init 44 = .ok (.aload_n 0, 1) := by decide +kernel
theorem dX1_init_45 : decode cX1_init 45 = .ok (.bipush 24, 2) := by decide +kernel
theorem dX1_init_47 : decode cX1_init 47 = .ok (.newarray .int, 2) := by decide +kernel
theorem dX1_init_49 : decode cX1_init 49 = .ok (.putfield 26, 3) := by decide +kernel
theorem dX1_init_52 : decode cX1_init 52 = .ok (.aload_n 0, 1) := by decide +kernel
theorem dX1_init_53 : decode cX1_init 53 = .ok (.bipush (-9), 2) := by decide +kernel
theorem dX1_init_55 : decode cX1_init 55 = .ok (.putfield 29, 3) := by decide +kernel
theorem dX1_init_58 : decode cX1_init 58 = .ok (.iconst 0, 1) := by decide +kernel
theorem dX1_init_59 : decode cX1_init 59 = .ok (.istore_n 1, 1) := by decide +kernel
theorem dX1_init_60 : decode cX1_init 60 = .ok (.iload_n 1, 1) := by decide +kernel
theorem dX1_init_61 : decode cX1_init 61 = .ok (.bipush 96, 2) := by decide +kernel
theorem dX1_init_63 : decode cX1_init 63 = .ok (.if_icmp .ge 17, 3) := by decide +kernel
theorem dX1_init_66 : decode cX1_init 66 = .ok (.aload_n 0, 1) := by decide +kernel
theorem dX1_init_67 : decode cX1_init 67 = .ok (.getfield 16, 3) := by decide +kernel
theorem dX1_init_70 : decode cX1_init 70 = .ok (.iload_n 1, 1) := by decide +kernel
theorem dX1_init_71 : decode cX1_init 71 = .ok (.bipush (-9), 2) := by decide +kernel
theorem dX1_init_73 : decode cX1_init 73 = .ok (.iastore, 1) := by decide +kernel
theorem dX1_init_74 : decode cX1_init 74 = .ok (.iinc 1 1, 3) := by decide +kernel
theorem dX1_init_77 : decode cX1_init 77 = .ok (.goto (-17), 3) := by decide +kernel
theorem dX1_init_80 : decode cX1_init 80 = .ok (.return_, 1) := by decide +kernel
theorem dX1_within_0 : decode cX1_within 0 = .ok (.iload_n 0, 1) := by decide +kernel
theorem dX1_within_1 : decode cX1_within 1 = .ok (.iload_n 1, 1) := by decide +kernel
theorem dX1_within_2 : decode cX1_within 2 = .ok (.if_icmp .lt 12, 3) := by decide +kernel
theorem dX1_within_5 : decode cX1_within 5 = .ok (.iload_n 0, 1) := by decide +kernel
theorem dX1_within_6 : decode cX1_within 6 = .ok (.iload_n 2, 1) := by decide +kernel
theorem dX1_within_7 : decode cX1_within 7 = .ok (.if_icmp .gt 7, 3) := by decide +kernel
theorem dX1_within_10 : decode cX1_within 10 = .ok (.iconst 1, 1) := by decide +kernel
theorem dX1_within_11 : decode cX1_within 11 = .ok (.goto 4, 3) := by decide +kernel
theorem dX1_within_14 : decode cX1_within 14 = .ok (.iconst 0, 1) := by decide +kernel
theorem dX1_within_15 : decode cX1_within 15 = .ok (.ireturn, 1) := by decide +kernel
theorem dX1_isFile_0 : decode cX1_isFile 0 = .ok (.iload_n 0, 1) := by decide +kernel
theorem dX1_isFile_1 : decode cX1_isFile 1 = .ok (.iconst 0, 1) := by decide +kernel
theorem dX1_isFile_2 : decode cX1_isFile 2 = .ok (.iconst 3, 1) := by decide +kernel
theorem dX1_isFile_3 : decode cX1_isFile 3 = .ok (.invokestatic 33, 3) := by decide +kernel
theorem dX1_isFile_6 : decode cX1_isFile 6 = .ok (.ireturn, 1) := by decide +kernel
theorem dX1_countOf_0 : decode cX1_countOf 0 = .ok (.iconst 0, 1) := by decide +kernel
theorem dX1_countOf_1 : decode cX1_countOf 1 = .ok (.istore_n 2, 1) := by decide +kernel
theorem dX1_countOf_2 : decode cX1_countOf 2 = .ok (.iconst 0, 1) := by decide +kernel
theorem dX1_countOf_3 : decode cX1_countOf 3 = .ok (.istore_n 3, 1) := by decide +kernel
theorem dX1_countOf_4 : decode cX1_countOf 4 = .ok (.iload_n 3, 1) := by decide +kernel
theorem dX1_countOf_5 : decode cX1_countOf 5 = .ok (.bipush 96, 2) := by decide +kernel
theorem dX1_countOf_7 : decode cX1_countOf 7 = .ok (.if_icmp .ge 27, 3) := by decide +kernel
theorem dX1_countOf_10 : decode cX1_countOf 10 = .ok (.iload_n 2, 1) := by decide +kernel
theorem dX1_countOf_11 : decode cX1_countOf 11 = .ok (.aload_n 0, 1) := by decide +kernel
theorem dX1_countOf_12 : decode cX1_countOf 12 = .ok (.getfield 16, 3) := by decide +kernel
theorem dX1_countOf_15 : decode cX1_countOf 15 = .ok (.iload_n 3, 1) := by decide +kernel
theorem dX1_countOf_16 : decode cX1_countOf 16 = .ok (.iaload, 1) := by decide +kernel
theorem dX1_countOf_17 : decode cX1_countOf 17 = .ok (.iload_n 1, 1) := by decide +kernel
theorem dX1_countOf_18 : decode cX1_countOf 18 = .ok (.if_icmp .ne 7, 3) := by decide +kernel
theorem dX1_countOf_21 : decode cX1_countOf 21 = .ok (.iconst 1, 1) := by decide +kernel
theorem dX1_countOf_22 : decode cX1_countOf 22 = .ok (.goto 4, 3) := by decide +kernel
theorem dX1_countOf_25 : decode cX1_countOf 25 = .ok (.iconst 0, 1) := by decide +kernel
theorem dX1_countOf_26 : decode cX1_countOf 26 = .ok (.iadd, 1) := by decide +kernel
theorem dX1_countOf_27 : decode cX1_countOf 27 = .ok (.istore_n 2, 1) := by decide +kernel
theorem dX1_countOf_28 : decode cX1_countOf 28 = .ok (.iinc 3 1, 3) := by decide +kernel
theorem dX1_countOf_31 : decode cX1_countOf 31 = .ok (.goto (-27), 3) := by decide +kernel
theorem dX1_countOf_34 : decode cX1_countOf 34 = .ok (.iload_n 2, 1) := by decide +kernel
theorem dX1_countOf_35 : decode cX1_countOf 35 = .ok (.ireturn, 1) := by decide +kernel
theorem dX1_isShared_0 : decode cX1_isShared 0 = .ok (.aload_n 0, 1) := by decide +kernel
theorem dX1_isShared_1 : decode cX1_isShared 1 = .ok (.getfield 16, 3) := by decide +kernel
theorem dX1_isShared_4 : decode cX1_isShared 4 = .ok (.bipush 24, 2) := by decide +kernel
theorem dX1_isShared_6 : decode cX1_isShared 6 = .ok (.iload_n 1, 1) := by decide +kernel
theorem dX1_isShared_7 : decode cX1_isShared 7 = .ok (.imul, 1) := by decide +kernel
theorem dX1_isShared_8 : decode cX1_isShared 8 = .ok (.iload_n 2, 1) := by decide +kernel
theorem dX1_isShared_9 : decode cX1_isShared 9 = .ok (.iadd, 1) := by decide +kernel
theorem dX1_isShared_10 : decode cX1_isShared 10 = .ok (.iaload, 1) := by decide +kernel
theorem dX1_isShared_11 : decode cX1_isShared 11 = .ok (.istore_n 3, 1) := by decide +kernel
theorem dX1_isShared_12 : decode cX1_isShared 12 = .ok (.iload_n 3, 1) := by decide +kernel
theorem dX1_isShared_13 : decode cX1_isShared 13 = .ok (.bipush (-9), 2) := by decide +kernel
theorem dX1_isShared_15 : decode cX1_isShared 15 = .ok (.if_icmp .eq 16, 3) := by decide +kernel
theorem dX1_isShared_18 : decode cX1_isShared 18 = .ok (.aload_n 0, 1) := by decide +kernel
theorem dX1_isShared_19 : decode cX1_isShared 19 = .ok (.iload_n 3, 1) := by decide +kernel
theorem dX1_isShared_20 : decode cX1_isShared 20 = .ok (.invokevirtual 37, 3) := by decide +kernel
theorem dX1_isShared_23 : decode cX1_isShared 23 = .ok (.iconst 1, 1) := by decide +kernel
theorem dX1_isShared_24 : decode cX1_isShared 24 = .ok (.if_icmp .le 7, 3) := by decide +kernel
theorem dX1_isShared_27 : decode cX1_isShared 27 = .ok (.iconst 1, 1) := by decide +kernel
theorem dX1_isShared_28 : decode cX1_isShared 28 = .ok (.goto 4, 3) := by decide +kernel
theorem dX1_isShared_31 : decode cX1_isShared 31 = .ok (.iconst 0, 1) := by decide +kernel
theorem dX1_isShared_32 : decode cX1_isShared 32 = .ok (.ireturn, 1) := by decide +kernel
theorem dX1_findTaken_0 : decode cX1_findTaken 0 = .ok (.iconst 0, 1) := by decide +kernel
theorem dX1_findTaken_1 : decode cX1_findTaken 1 = .ok (.istore_n 1, 1) := by decide +kernel
theorem dX1_findTaken_2 : decode cX1_findTaken 2 = .ok (.iload_n 1, 1) := by decide +kernel
theorem dX1_findTaken_3 : decode cX1_findTaken 3 = .ok (.bipush 48, 2) := by decide +kernel
theorem dX1_findTaken_5 : decode cX1_findTaken 5 = .ok (.if_icmp .ge 28, 3) := by decide +kernel
theorem dX1_findTaken_8 : decode cX1_findTaken 8 = .ok (.aload_n 0, 1) := by decide +kernel
theorem dX1_findTaken_9 : decode cX1_findTaken 9 = .ok (.getfield 22, 3) := by decide +kernel
theorem dX1_findTaken_12 : decode cX1_findTaken 12 = .ok (.iload_n 1, 1) := by decide +kernel
theorem dX1_findTaken_13 : decode cX1_findTaken 13 = .ok (.aload_n 0, 1) := by decide +kernel
theorem dX1_findTaken_14 : decode cX1_findTaken 14 = .ok (.iload_n 1, 1) := by decide +kernel
theorem dX1_findTaken_15 : decode cX1_findTaken 15 = .ok (.invokevirtual 37, 3) := by decide +kernel
theorem dX1_findTaken_18 : decode cX1_findTaken 18 = .ok (.ifCond .le 7, 3) := by decide +kernel
theorem dX1_findTaken_21 : decode cX1_findTaken 21 = .ok (.iconst 1, 1) := by decide +kernel
theorem dX1_findTaken_22 : decode cX1_findTaken 22 = .ok (.goto 4, 3) := by decide +kernel
theorem dX1_findTaken_25 : decode cX1_findTaken 25 = .ok (.iconst 0, 1) := by decide +kernel
theorem dX1_findTaken_26 : decode cX1_findTaken 26 = .ok (.bastore, 1) := by decide +kernel
theorem dX1_findTaken_27 : decode cX1_findTaken 27 = .ok (.iinc 1 1, 3) := by decide +kernel
theorem dX1_findTaken_30 : decode cX1_findTaken 30 = .ok (.goto (-28), 3) := by decide +kernel
theorem dX1_findTaken_33 : decode cX1_findTaken 33 = .ok (.return_, 1) := by decide +kernel
theorem dX1_freeFrom_0 : decode cX1_freeFrom 0 = .ok (.iconst 0, 1) := by decide +kernel
theorem dX1_freeFrom_1 : decode cX1_freeFrom 1 = .ok (.istore_n 2, 1) := by decide +kernel
theorem dX1_freeFrom_2 : decode cX1_freeFrom 2 = .ok (.iload_n 1, 1) := by decide +kernel
theorem dX1_freeFrom_3 : decode cX1_freeFrom 3 = .ok (.iload_n 2, 1) := by decide +kernel
theorem dX1_freeFrom_4 : decode cX1_freeFrom 4 = .ok (.iadd, 1) := by decide +kernel
theorem dX1_freeFrom_5 : decode cX1_freeFrom 5 = .ok (.bipush 48, 2) := by decide +kernel
theorem dX1_freeFrom_7 : decode cX1_freeFrom 7 = .ok (.if_icmp .ge 20, 3) := by decide +kernel
theorem dX1_freeFrom_10 : decode cX1_freeFrom 10 = .ok (.aload_n 0, 1) := by decide +kernel
theorem dX1_freeFrom_11 : decode cX1_freeFrom 11 = .ok (.getfield 22, 3) := by decide +kernel
theorem dX1_freeFrom_14 : decode cX1_freeFrom 14 = .ok (.iload_n 1, 1) := by decide +kernel
theorem dX1_freeFrom_15 : decode cX1_freeFrom 15 = .ok (.iload_n 2, 1) := by decide +kernel
theorem dX1_freeFrom_16 : decode cX1_freeFrom 16 = .ok (.iadd, 1) := by decide +kernel
theorem dX1_freeFrom_17 : decode cX1_freeFrom 17 = .ok (.baload, 1) := by decide +kernel
theorem dX1_freeFrom_18 : decode cX1_freeFrom 18 = .ok (.ifCond .ne 9, 3) := by decide +kernel
theorem dX1_freeFrom_21 : decode cX1_freeFrom 21 = .ok (.iinc 2 1, 3) := by decide +kernel
theorem dX1_freeFrom_24 : decode cX1_freeFrom 24 = .ok (.goto (-22), 3) := by decide +kernel
theorem dX1_freeFrom_27 : decode cX1_freeFrom 27 = .ok (.iload_n 2, 1) := by decide +kernel
theorem dX1_freeFrom_28 : decode cX1_freeFrom 28 = .ok (.ireturn, 1) := by decide +kernel
theorem dX1_beginsRun_0 : decode cX1_beginsRun 0 = .ok (.aload_n 0, 1) := by decide +kernel
theorem dX1_beginsRun_1 : decode cX1_beginsRun 1 = .ok (.getfield 22, 3) := by decide +kernel
theorem dX1_beginsRun_4 : decode cX1_beginsRun 4 = .ok (.iload_n 1, 1) := by decide +kernel
theorem dX1_beginsRun_5 : decode cX1_beginsRun 5 = .ok (.baload, 1) := by decide +kernel
theorem dX1_beginsRun_6 : decode cX1_beginsRun 6 = .ok (.ifCond .ne 22, 3) := by decide +kernel
theorem dX1_beginsRun_9 : decode cX1_beginsRun 9 = .ok (.iload_n 1, 1) := by decide +kernel
theorem dX1_beginsRun_10 : decode cX1_beginsRun 10 = .ok (.ifCond .eq 14, 3) := by decide +kernel
theorem dX1_beginsRun_13 : decode cX1_beginsRun 13 = .ok (.aload_n 0, 1) := by decide +kernel
theorem dX1_beginsRun_14 : decode cX1_beginsRun 14 = .ok (.getfield 22, 3) := by decide +kernel
theorem dX1_beginsRun_17 : decode cX1_beginsRun 17 = .ok (.iload_n 1, 1) := by decide +kernel
theorem dX1_beginsRun_18 : decode cX1_beginsRun 18 = .ok (.iconst 1, 1) := by decide +kernel
theorem dX1_beginsRun_19 : decode cX1_beginsRun 19 = .ok (.isub, 1) := by decide +kernel
theorem dX1_beginsRun_20 : decode cX1_beginsRun 20 = .ok (.baload, 1) := by decide +kernel
theorem dX1_beginsRun_21 : decode cX1_beginsRun 21 = .ok (.ifCond .eq 7, 3) := by decide +kernel
theorem dX1_beginsRun_24 : decode cX1_beginsRun 24 = .ok (.iconst 1, 1) := by decide +kernel
theorem dX1_beginsRun_25 : decode cX1_beginsRun 25 = .ok (.goto 4, 3) := by decide +kernel
theorem dX1_beginsRun_28 : decode cX1_beginsRun 28 = .ok (.iconst 0, 1) := by decide +kernel
theorem dX1_beginsRun_29 : decode cX1_beginsRun 29 = .ok (.ireturn, 1) := by decide +kernel
theorem dX1_runFor_0 : decode cX1_runFor 0 = .ok (.bipush (-9), 2) := by decide +kernel
theorem dX1_runFor_2 : decode cX1_runFor 2 = .ok (.istore_n 2, 1) := by decide +kernel
theorem dX1_runFor_3 : decode cX1_runFor 3 = .ok (.bipush (-9), 2) := by decide +kernel
theorem dX1_runFor_5 : decode cX1_runFor 5 = .ok (.istore_n 3, 1) := by decide +kernel
theorem dX1_runFor_6 : decode cX1_runFor 6 = .ok (.iconst 0, 1) := by decide +kernel
theorem dX1_runFor_7 : decode cX1_runFor 7 = .ok (.istore 4, 2) := by decide +kernel
theorem dX1_runFor_9 : decode cX1_runFor 9 = .ok (.iload 4, 2) := by decide +kernel
theorem dX1_runFor_11 : decode cX1_runFor 11 = .ok (.bipush 48, 2) := by decide +kernel
theorem dX1_runFor_13 : decode cX1_runFor 13 = .ok (.if_icmp .ge 78, 3) := by decide +kernel
theorem dX1_runFor_16 : decode cX1_runFor 16 = .ok (.aload_n 0, 1) := by decide +kernel
theorem dX1_runFor_17 : decode cX1_runFor 17 = .ok (.iload 4, 2) := by decide +kernel
theorem dX1_runFor_19 : decode cX1_runFor 19 = .ok (.invokevirtual 41, 3) := by decide +kernel
theorem dX1_runFor_22 : decode cX1_runFor 22 = .ok (.ifCond .eq 63, 3) := by decide +kernel
theorem dX1_runFor_25 : decode cX1_runFor 25 = .ok (.aload_n 0, 1) := by decide +kernel
theorem dX1_runFor_26 : decode cX1_runFor 26 = .ok (.iload 4, 2) := by decide +kernel
theorem dX1_runFor_28 : decode cX1_runFor 28 = .ok (.invokevirtual 45, 3) := by decide +kernel
theorem dX1_runFor_31 : decode cX1_runFor 31 = .ok (.istore 5, 2) := by decide +kernel
theorem dX1_runFor_33 : decode cX1_runFor 33 = .ok (.iload 5, 2) := by decide +kernel
theorem dX1_runFor_35 : decode cX1_runFor 35 = .ok (.iload_n 1, 1) := by decide +kernel
theorem dX1_runFor_36 : decode cX1_runFor 36 = .ok (.if_icmp .lt 24, 3) := by decide +kernel
theorem dX1_runFor_39 : decode cX1_runFor 39 = .ok (.iload_n 2, 1) := by decide +kernel
theorem dX1_runFor_40 : decode cX1_runFor 40 = .ok (.bipush (-9), 2) := by decide +kernel
theorem dX1_runFor_42 : decode cX1_runFor 42 = .ok (.if_icmp .eq 13, 3) := by decide +kernel
theorem dX1_runFor_45 : decode cX1_runFor 45 = .ok (.iload 5, 2) := by decide +kernel
theorem dX1_runFor_47 : decode cX1_runFor 47 = .ok (.aload_n 0, 1) := by decide +kernel
theorem dX1_runFor_48 : decode cX1_runFor 48 = .ok (.iload_n 2, 1) := by decide +kernel
theorem dX1_runFor_49 : decode cX1_runFor 49 = .ok (.invokevirtual 45, 3) := by decide +kernel
theorem dX1_runFor_52 : decode cX1_runFor 52 = .ok (.if_icmp .ge 8, 3) := by decide +kernel
theorem dX1_runFor_55 : decode cX1_runFor 55 = .ok (.iload 4, 2) := by decide +kernel
theorem dX1_runFor_57 : decode cX1_runFor 57 = .ok (.goto 4, 3) := by decide +kernel
theorem dX1_runFor_60 : decode cX1_runFor 60 = .ok (.iload_n 2, 1) := by decide +kernel
theorem dX1_runFor_61 : decode cX1_runFor 61 = .ok (.istore_n 2, 1) := by decide +kernel
theorem dX1_runFor_62 : decode cX1_runFor 62 = .ok (.iload_n 3, 1) := by decide +kernel
theorem dX1_runFor_63 : decode cX1_runFor 63 = .ok (.bipush (-9), 2) := by decide +kernel
theorem dX1_runFor_65 : decode cX1_runFor 65 = .ok (.if_icmp .eq 13, 3) := by decide +kernel
theorem dX1_runFor_68 : decode cX1_runFor 68 = .ok (.iload 5, 2) := by decide +kernel
theorem dX1_runFor_70 : decode cX1_runFor 70 = .ok (.aload_n 0, 1) := by decide +kernel
theorem dX1_runFor_71 : decode cX1_runFor 71 = .ok (.iload_n 3, 1) := by decide +kernel
theorem dX1_runFor_72 : decode cX1_runFor 72 = .ok (.invokevirtual 45, 3) := by decide +kernel
theorem dX1_runFor_75 : decode cX1_runFor 75 = .ok (.if_icmp .le 8, 3) := by decide +kernel
theorem dX1_runFor_78 : decode cX1_runFor 78 = .ok (.iload 4, 2) := by decide +kernel
theorem dX1_runFor_80 : decode cX1_runFor 80 = .ok (.goto 4, 3) := by decide +kernel
theorem dX1_runFor_83 : decode cX1_runFor 83 = .ok (.iload_n 3, 1) := by decide +kernel
theorem dX1_runFor_84 : decode cX1_runFor 84 = .ok (.istore_n 3, 1) := by decide +kernel
theorem dX1_runFor_85 : decode cX1_runFor 85 = .ok (.iinc 4 1, 3) := by decide +kernel
theorem dX1_runFor_88 : decode cX1_runFor 88 = .ok (.goto (-79), 3) := by decide +kernel
theorem dX1_runFor_91 : decode cX1_runFor 91 = .ok (.iload_n 2, 1) := by decide +kernel
theorem dX1_runFor_92 : decode cX1_runFor 92 = .ok (.bipush (-9), 2) := by decide +kernel
theorem dX1_runFor_94 : decode cX1_runFor 94 = .ok (.if_icmp .eq 7, 3) := by decide +kernel
theorem dX1_runFor_97 : decode cX1_runFor 97 = .ok (.iload_n 2, 1) := by decide +kernel
theorem dX1_runFor_98 : decode cX1_runFor 98 = .ok (.goto 4, 3) := by decide +kernel
theorem dX1_runFor_101 : decode cX1_runFor 101 = .ok (.iload_n 3, 1) := by decide +kernel
theorem dX1_runFor_102 : decode cX1_runFor 102 = .ok (.ireturn, 1) := by decide +kernel
theorem dX1_gets_0 : decode cX1_gets 0 = .ok (.aload_n 0, 1) := by decide +kernel
theorem dX1_gets_1 : decode cX1_gets 1 = .ok (.invokevirtual 48, 3) := by decide +kernel
theorem dX1_gets_4 : decode cX1_gets 4 = .ok (.aload_n 0, 1) := by decide +kernel
theorem dX1_gets_5 : decode cX1_gets 5 = .ok (.iconst 0, 1) := by decide +kernel
theorem dX1_gets_6 : decode cX1_gets 6 = .ok (.putfield 51, 3) := by decide +kernel
theorem dX1_gets_9 : decode cX1_gets 9 = .ok (.aload_n 0, 1) := by decide +kernel
theorem dX1_gets_10 : decode cX1_gets 10 = .ok (.getfield 51, 3) := by decide +kernel
theorem dX1_gets_13 : decode cX1_gets 13 = .ok (.iload_n 1, 1) := by decide +kernel
theorem dX1_gets_14 : decode cX1_gets 14 = .ok (.if_icmp .ge 87, 3) := by decide +kernel
theorem dX1_gets_17 : decode cX1_gets 17 = .ok (.aload_n 0, 1) := by decide +kernel
theorem dX1_gets_18 : decode cX1_gets 18 = .ok (.iload_n 1, 1) := by decide +kernel
theorem dX1_gets_19 : decode cX1_gets 19 = .ok (.aload_n 0, 1) := by decide +kernel
theorem dX1_gets_20 : decode cX1_gets 20 = .ok (.getfield 51, 3) := by decide +kernel
theorem dX1_gets_23 : decode cX1_gets 23 = .ok (.isub, 1) := by decide +kernel
theorem dX1_gets_24 : decode cX1_gets 24 = .ok (.invokevirtual 54, 3) := by decide +kernel
theorem dX1_gets_27 : decode cX1_gets 27 = .ok (.istore_n 2, 1) := by decide +kernel
theorem dX1_gets_28 : decode cX1_gets 28 = .ok (.iload_n 2, 1) := by decide +kernel
theorem dX1_gets_29 : decode cX1_gets 29 = .ok (.bipush (-9), 2) := by decide +kernel
theorem dX1_gets_31 : decode cX1_gets 31 = .ok (.if_icmp .ne 5, 3) := by decide +kernel
theorem dX1_gets_34 : decode cX1_gets 34 = .ok (.iconst 0, 1) := by decide +kernel
theorem dX1_gets_35 : decode cX1_gets 35 = .ok (.ireturn, 1) := by decide +kernel
theorem dX1_gets_36 : decode cX1_gets 36 = .ok (.aload_n 0, 1) := by decide +kernel
theorem dX1_gets_37 : decode cX1_gets 37 = .ok (.iload_n 2, 1) := by decide +kernel
theorem dX1_gets_38 : decode cX1_gets 38 = .ok (.invokevirtual 45, 3) := by decide +kernel
theorem dX1_gets_41 : decode cX1_gets 41 = .ok (.istore_n 3, 1) := by decide +kernel
theorem dX1_gets_42 : decode cX1_gets 42 = .ok (.iconst 0, 1) := by decide +kernel
theorem dX1_gets_43 : decode cX1_gets 43 = .ok (.istore 4, 2) := by decide +kernel
theorem dX1_gets_45 : decode cX1_gets 45 = .ok (.iload 4, 2) := by decide +kernel
theorem dX1_gets_47 : decode cX1_gets 47 = .ok (.iload_n 3, 1) := by decide +kernel
theorem dX1_gets_48 : decode cX1_gets 48 = .ok (.if_icmp .ge 50, 3) := by decide +kernel
theorem dX1_gets_51 : decode cX1_gets 51 = .ok (.aload_n 0, 1) := by decide +kernel
theorem dX1_gets_52 : decode cX1_gets 52 = .ok (.getfield 51, 3) := by decide +kernel
theorem dX1_gets_55 : decode cX1_gets 55 = .ok (.iload_n 1, 1) := by decide +kernel
theorem dX1_gets_56 : decode cX1_gets 56 = .ok (.if_icmp .ge 42, 3) := by decide +kernel
theorem dX1_gets_59 : decode cX1_gets 59 = .ok (.aload_n 0, 1) := by decide +kernel
theorem dX1_gets_60 : decode cX1_gets 60 = .ok (.getfield 19, 3) := by decide +kernel
theorem dX1_gets_63 : decode cX1_gets 63 = .ok (.aload_n 0, 1) := by decide +kernel
theorem dX1_gets_64 : decode cX1_gets 64 = .ok (.getfield 51, 3) := by decide +kernel
theorem dX1_gets_67 : decode cX1_gets 67 = .ok (.iload_n 2, 1) := by decide +kernel
theorem dX1_gets_68 : decode cX1_gets 68 = .ok (.iload 4, 2) := by decide +kernel
theorem dX1_gets_70 : decode cX1_gets 70 = .ok (.iadd, 1) := by decide +kernel
theorem dX1_gets_71 : decode cX1_gets 71 = .ok (.iastore, 1) := by decide +kernel
theorem dX1_gets_72 : decode cX1_gets 72 = .ok (.aload_n 0, 1) := by decide +kernel
theorem dX1_gets_73 : decode cX1_gets 73 = .ok (.getfield 22, 3) := by decide +kernel
theorem dX1_gets_76 : decode cX1_gets 76 = .ok (.iload_n 2, 1) := by decide +kernel
theorem dX1_gets_77 : decode cX1_gets 77 = .ok (.iload 4, 2) := by decide +kernel
theorem dX1_gets_79 : decode cX1_gets 79 = .ok (.iadd, 1) := by decide +kernel
theorem dX1_gets_80 : decode cX1_gets 80 = .ok (.iconst 1, 1) := by decide +kernel
theorem dX1_gets_81 : decode cX1_gets 81 = .ok (.bastore, 1) := by decide +kernel
theorem dX1_gets_82 : decode cX1_gets 82 = .ok (.aload_n 0, 1) := by decide +kernel
theorem dX1_gets_83 : decode cX1_gets 83 = .ok (.dup, 1) := by decide +kernel
theorem dX1_gets_84 : decode cX1_gets 84 = .ok (.getfield 51, 3) := by decide +kernel
theorem dX1_gets_87 : decode cX1_gets 87 = .ok (.iconst 1, 1) := by decide +kernel
theorem dX1_gets_88 : decode cX1_gets 88 = .ok (.iadd, 1) := by decide +kernel
theorem dX1_gets_89 : decode cX1_gets 89 = .ok (.putfield 51, 3) := by decide +kernel
theorem dX1_gets_92 : decode cX1_gets 92 = .ok (.iinc 4 1, 3) := by decide +kernel
theorem dX1_gets_95 : decode cX1_gets 95 = .ok (.goto (-50), 3) := by decide +kernel
theorem dX1_gets_98 : decode cX1_gets 98 = .ok (.goto (-89), 3) := by decide +kernel
theorem dX1_gets_101 : decode cX1_gets 101 = .ok (.iconst 1, 1) := by decide +kernel
theorem dX1_gets_102 : decode cX1_gets 102 = .ok (.ireturn, 1) := by decide +kernel
theorem dX1_wants_0 : decode cX1_wants 0 = .ok (.aload_n 0, 1) := by decide +kernel
theorem dX1_wants_1 : decode cX1_wants 1 = .ok (.iload_n 1, 1) := by decide +kernel
theorem dX1_wants_2 : decode cX1_wants 2 = .ok (.iload_n 2, 1) := by decide +kernel
theorem dX1_wants_3 : decode cX1_wants 3 = .ok (.invokevirtual 57, 3) := by decide +kernel
theorem dX1_wants_6 : decode cX1_wants 6 = .ok (.ifCond .ne 23, 3) := by decide +kernel
theorem dX1_wants_9 : decode cX1_wants 9 = .ok (.iload_n 3, 1) := by decide +kernel
theorem dX1_wants_10 : decode cX1_wants 10 = .ok (.ifCond .eq 39, 3) := by decide +kernel
theorem dX1_wants_13 : decode cX1_wants 13 = .ok (.aload_n 0, 1) := by decide +kernel
theorem dX1_wants_14 : decode cX1_wants 14 = .ok (.getfield 16, 3) := by decide +kernel
theorem dX1_wants_17 : decode cX1_wants 17 = .ok (.bipush 24, 2) := by decide +kernel
theorem dX1_wants_19 : decode cX1_wants 19 = .ok (.iload_n 1, 1) := by decide +kernel
theorem dX1_wants_20 : decode cX1_wants 20 = .ok (.imul, 1) := by decide +kernel
theorem dX1_wants_21 : decode cX1_wants 21 = .ok (.iload_n 2, 1) := by decide +kernel
theorem dX1_wants_22 : decode cX1_wants 22 = .ok (.iadd, 1) := by decide +kernel
theorem dX1_wants_23 : decode cX1_wants 23 = .ok (.iaload, 1) := by decide +kernel
theorem dX1_wants_24 : decode cX1_wants 24 = .ok (.bipush (-9), 2) := by decide +kernel
theorem dX1_wants_26 : decode cX1_wants 26 = .ok (.if_icmp .ne 23, 3) := by decide +kernel
theorem dX1_wants_29 : decode cX1_wants 29 = .ok (.aload_n 0, 1) := by decide +kernel
theorem dX1_wants_30 : decode cX1_wants 30 = .ok (.getfield 26, 3) := by decide +kernel
theorem dX1_wants_33 : decode cX1_wants 33 = .ok (.aload_n 0, 1) := by decide +kernel
theorem dX1_wants_34 : decode cX1_wants 34 = .ok (.getfield 61, 3) := by decide +kernel
theorem dX1_wants_37 : decode cX1_wants 37 = .ok (.iload_n 2, 1) := by decide +kernel
theorem dX1_wants_38 : decode cX1_wants 38 = .ok (.iastore, 1) := by decide +kernel
theorem dX1_wants_39 : decode cX1_wants 39 = .ok (.aload_n 0, 1) := by decide +kernel
theorem dX1_wants_40 : decode cX1_wants 40 = .ok (.dup, 1) := by decide +kernel
theorem dX1_wants_41 : decode cX1_wants 41 = .ok (.getfield 61, 3) := by decide +kernel
theorem dX1_wants_44 : decode cX1_wants 44 = .ok (.iconst 1, 1) := by decide +kernel
theorem dX1_wants_45 : decode cX1_wants 45 = .ok (.iadd, 1) := by decide +kernel
theorem dX1_wants_46 : decode cX1_wants 46 = .ok (.putfield 61, 3) := by decide +kernel
theorem dX1_wants_49 : decode cX1_wants 49 = .ok (.return_, 1) := by decide +kernel
theorem dX1_copies_0 : decode cX1_copies 0 = .ok (.iconst 0, 1) := by decide +kernel
theorem dX1_copies_1 : decode cX1_copies 1 = .ok (.istore_n 3, 1) := by decide +kernel
theorem dX1_copies_2 : decode cX1_copies 2 = .ok (.iload_n 3, 1) := by decide +kernel
theorem dX1_copies_3 : decode cX1_copies 3 = .ok (.iconst 4, 1) := by decide +kernel
theorem dX1_copies_4 : decode cX1_copies 4 = .ok (.if_icmp .ge 39, 3) := by decide +kernel
theorem dX1_copies_7 : decode cX1_copies 7 = .ok (.aload_n 0, 1) := by decide +kernel
theorem dX1_copies_8 : decode cX1_copies 8 = .ok (.getfield 7, 3) := by decide +kernel
theorem dX1_copies_11 : decode cX1_copies 11 = .ok (.iconst 4, 1) := by decide +kernel
theorem dX1_copies_12 : decode cX1_copies 12 = .ok (.iload_n 2, 1) := by decide +kernel
theorem dX1_copies_13 : decode cX1_copies 13 = .ok (.imul, 1) := by decide +kernel
theorem dX1_copies_14 : decode cX1_copies 14 = .ok (.iload_n 3, 1) := by decide +kernel
theorem dX1_copies_15 : decode cX1_copies 15 = .ok (.iadd, 1) := by decide +kernel
theorem dX1_copies_16 : decode cX1_copies 16 = .ok (.iload_n 1, 1) := by decide +kernel
theorem dX1_copies_17 : decode cX1_copies 17 = .ok (.bipush (-9), 2) := by decide +kernel
theorem dX1_copies_19 : decode cX1_copies 19 = .ok (.if_icmp .ne 7, 3) := by decide +kernel
theorem dX1_copies_22 : decode cX1_copies 22 = .ok (.iconst 0, 1) := by decide +kernel
theorem dX1_copies_23 : decode cX1_copies 23 = .ok (.goto 13, 3) := by decide +kernel
theorem dX1_copies_26 : decode cX1_copies 26 = .ok (.aload_n 0, 1) := by decide +kernel
theorem dX1_copies_27 : decode cX1_copies 27 = .ok (.getfield 7, 3) := by decide +kernel
theorem dX1_copies_30 : decode cX1_copies 30 = .ok (.iconst 4, 1) := by decide +kernel
theorem dX1_copies_31 : decode cX1_copies 31 = .ok (.iload_n 1, 1) := by decide +kernel
theorem dX1_copies_32 : decode cX1_copies 32 = .ok (.imul, 1) := by decide +kernel
theorem dX1_copies_33 : decode cX1_copies 33 = .ok (.iload_n 3, 1) := by decide +kernel
theorem dX1_copies_34 : decode cX1_copies 34 = .ok (.iadd, 1) := by decide +kernel
theorem dX1_copies_35 : decode cX1_copies 35 = .ok (.iaload, 1) := by decide +kernel
theorem dX1_copies_36 : decode cX1_copies 36 = .ok (.iastore, 1) := by decide +kernel
theorem dX1_copies_37 : decode cX1_copies 37 = .ok (.iinc 3 1, 3) := by decide +kernel
theorem dX1_copies_40 : decode cX1_copies 40 = .ok (.goto (-38), 3) := by decide +kernel
theorem dX1_copies_43 : decode cX1_copies 43 = .ok (.return_, 1) := by decide +kernel
theorem dX1_owns_0 : decode cX1_owns 0 = .ok (.aload_n 0, 1) := by decide +kernel
theorem dX1_owns_1 : decode cX1_owns 1 = .ok (.aload_n 0, 1) := by decide +kernel
theorem dX1_owns_2 : decode cX1_owns 2 = .ok (.getfield 61, 3) := by decide +kernel
theorem dX1_owns_5 : decode cX1_owns 5 = .ok (.invokevirtual 64, 3) := by decide +kernel
theorem dX1_owns_8 : decode cX1_owns 8 = .ok (.ifCond .ne 5, 3) := by decide +kernel
theorem dX1_owns_11 : decode cX1_owns 11 = .ok (.iconst 0, 1) := by decide +kernel
theorem dX1_owns_12 : decode cX1_owns 12 = .ok (.ireturn, 1) := by decide +kernel
theorem dX1_owns_13 : decode cX1_owns 13 = .ok (.iconst 0, 1) := by decide +kernel
theorem dX1_owns_14 : decode cX1_owns 14 = .ok (.istore_n 2, 1) := by decide +kernel
theorem dX1_owns_15 : decode cX1_owns 15 = .ok (.iload_n 2, 1) := by decide +kernel
theorem dX1_owns_16 : decode cX1_owns 16 = .ok (.aload_n 0, 1) := by decide +kernel
theorem dX1_owns_17 : decode cX1_owns 17 = .ok (.getfield 61, 3) := by decide +kernel
theorem dX1_owns_20 : decode cX1_owns 20 = .ok (.if_icmp .ge 49, 3) := by decide +kernel
theorem dX1_owns_23 : decode cX1_owns 23 = .ok (.bipush 24, 2) := by decide +kernel
theorem dX1_owns_25 : decode cX1_owns 25 = .ok (.iload_n 1, 1) := by decide +kernel
theorem dX1_owns_26 : decode cX1_owns 26 = .ok (.imul, 1) := by decide +kernel
theorem dX1_owns_27 : decode cX1_owns 27 = .ok (.aload_n 0, 1) := by decide +kernel
theorem dX1_owns_28 : decode cX1_owns 28 = .ok (.getfield 26, 3) := by decide +kernel
theorem dX1_owns_31 : decode cX1_owns 31 = .ok (.iload_n 2, 1) := by decide +kernel
theorem dX1_owns_32 : decode cX1_owns 32 = .ok (.iaload, 1) := by decide +kernel
theorem dX1_owns_33 : decode cX1_owns 33 = .ok (.iadd, 1) := by decide +kernel
theorem dX1_owns_34 : decode cX1_owns 34 = .ok (.istore_n 3, 1) := by decide +kernel
theorem dX1_owns_35 : decode cX1_owns 35 = .ok (.aload_n 0, 1) := by decide +kernel
theorem dX1_owns_36 : decode cX1_owns 36 = .ok (.aload_n 0, 1) := by decide +kernel
theorem dX1_owns_37 : decode cX1_owns 37 = .ok (.getfield 16, 3) := by decide +kernel
theorem dX1_owns_40 : decode cX1_owns 40 = .ok (.iload_n 3, 1) := by decide +kernel
theorem dX1_owns_41 : decode cX1_owns 41 = .ok (.iaload, 1) := by decide +kernel
theorem dX1_owns_42 : decode cX1_owns 42 = .ok (.aload_n 0, 1) := by decide +kernel
theorem dX1_owns_43 : decode cX1_owns 43 = .ok (.getfield 19, 3) := by decide +kernel
theorem dX1_owns_46 : decode cX1_owns 46 = .ok (.iload_n 2, 1) := by decide +kernel
theorem dX1_owns_47 : decode cX1_owns 47 = .ok (.iaload, 1) := by decide +kernel
theorem dX1_owns_48 : decode cX1_owns 48 = .ok (.invokevirtual 67, 3) := by decide +kernel
theorem dX1_owns_51 : decode cX1_owns 51 = .ok (.aload_n 0, 1) := by decide +kernel
theorem dX1_owns_52 : decode cX1_owns 52 = .ok (.getfield 16, 3) := by decide +kernel
theorem dX1_owns_55 : decode cX1_owns 55 = .ok (.iload_n 3, 1) := by decide +kernel
theorem dX1_owns_56 : decode cX1_owns 56 = .ok (.aload_n 0, 1) := by decide +kernel
theorem dX1_owns_57 : decode cX1_owns 57 = .ok (.getfield 19, 3) := by decide +kernel
theorem dX1_owns_60 : decode cX1_owns 60 = .ok (.iload_n 2, 1) := by decide +kernel
theorem dX1_owns_61 : decode cX1_owns 61 = .ok (.iaload, 1) := by decide +kernel
theorem dX1_owns_62 : decode cX1_owns 62 = .ok (.iastore, 1) := by decide +kernel
theorem dX1_owns_63 : decode cX1_owns 63 = .ok (.iinc 2 1, 3) := by decide +kernel
theorem dX1_owns_66 : decode cX1_owns 66 = .ok (.goto (-51), 3) := by decide +kernel
theorem dX1_owns_69 : decode cX1_owns 69 = .ok (.iconst 1, 1) := by decide +kernel
theorem dX1_owns_70 : decode cX1_owns 70 = .ok (.ireturn, 1) := by decide +kernel
theorem dX1_read_0 : decode cX1_read 0 = .ok (.iload_n 1, 1) := by decide +kernel
theorem dX1_read_1 : decode cX1_read 1 = .ok (.invokestatic 71, 3) := by decide +kernel
theorem dX1_read_4 : decode cX1_read 4 = .ok (.ifCond .ne 5, 3) := by decide +kernel
theorem dX1_read_7 : decode cX1_read 7 = .ok (.iconst (-1), 1) := by decide +kernel
theorem dX1_read_8 : decode cX1_read 8 = .ok (.ireturn, 1) := by decide +kernel
theorem dX1_read_9 : decode cX1_read 9 = .ok (.iload_n 2, 1) := by decide +kernel
theorem dX1_read_10 : decode cX1_read 10 = .ok (.iconst 0, 1) := by decide +kernel
theorem dX1_read_11 : decode cX1_read 11 = .ok (.aload_n 0, 1) := by decide +kernel
theorem dX1_read_12 : decode cX1_read 12 = .ok (.getfield 13, 3) := by decide +kernel
theorem dX1_read_15 : decode cX1_read 15 = .ok (.iload_n 1, 1) := by decide +kernel
theorem dX1_read_16 : decode cX1_read 16 = .ok (.iaload, 1) := by decide +kernel
theorem dX1_read_17 : decode cX1_read 17 = .ok (.iconst 1, 1) := by decide +kernel
theorem dX1_read_18 : decode cX1_read 18 = .ok (.isub, 1) := by decide +kernel
theorem dX1_read_19 : decode cX1_read 19 = .ok (.invokestatic 33, 3) := by decide +kernel
theorem dX1_read_22 : decode cX1_read 22 = .ok (.ifCond .ne 6, 3) := by decide +kernel
theorem dX1_read_25 : decode cX1_read 25 = .ok (.bipush (-2), 2) := by decide +kernel
theorem dX1_read_27 : decode cX1_read 27 = .ok (.ireturn, 1) := by decide +kernel
theorem dX1_read_28 : decode cX1_read 28 = .ok (.aload_n 0, 1) := by decide +kernel
theorem dX1_read_29 : decode cX1_read 29 = .ok (.getfield 16, 3) := by decide +kernel
theorem dX1_read_32 : decode cX1_read 32 = .ok (.bipush 24, 2) := by decide +kernel
theorem dX1_read_34 : decode cX1_read 34 = .ok (.iload_n 1, 1) := by decide +kernel
theorem dX1_read_35 : decode cX1_read 35 = .ok (.imul, 1) := by decide +kernel
theorem dX1_read_36 : decode cX1_read 36 = .ok (.iload_n 2, 1) := by decide +kernel
theorem dX1_read_37 : decode cX1_read 37 = .ok (.iconst 4, 1) := by decide +kernel
theorem dX1_read_38 : decode cX1_read 38 = .ok (.idiv, 1) := by decide +kernel
theorem dX1_read_39 : decode cX1_read 39 = .ok (.iadd, 1) := by decide +kernel
theorem dX1_read_40 : decode cX1_read 40 = .ok (.iaload, 1) := by decide +kernel
theorem dX1_read_41 : decode cX1_read 41 = .ok (.istore_n 3, 1) := by decide +kernel
theorem dX1_read_42 : decode cX1_read 42 = .ok (.iload_n 3, 1) := by decide +kernel
theorem dX1_read_43 : decode cX1_read 43 = .ok (.bipush (-9), 2) := by decide +kernel
theorem dX1_read_45 : decode cX1_read 45 = .ok (.if_icmp .ne 7, 3) := by decide +kernel
theorem dX1_read_48 : decode cX1_read 48 = .ok (.iconst 0, 1) := by decide +kernel
theorem dX1_read_49 : decode cX1_read 49 = .ok (.goto 15, 3) := by decide +kernel
theorem dX1_read_52 : decode cX1_read 52 = .ok (.aload_n 0, 1) := by decide +kernel
theorem dX1_read_53 : decode cX1_read 53 = .ok (.getfield 7, 3) := by decide +kernel
theorem dX1_read_56 : decode cX1_read 56 = .ok (.iconst 4, 1) := by decide +kernel
theorem dX1_read_57 : decode cX1_read 57 = .ok (.iload_n 3, 1) := by decide +kernel
theorem dX1_read_58 : decode cX1_read 58 = .ok (.imul, 1) := by decide +kernel
theorem dX1_read_59 : decode cX1_read 59 = .ok (.iload_n 2, 1) := by decide +kernel
theorem dX1_read_60 : decode cX1_read 60 = .ok (.iconst 4, 1) := by decide +kernel
theorem dX1_read_61 : decode cX1_read 61 = .ok (.irem, 1) := by decide +kernel
theorem dX1_read_62 : decode cX1_read 62 = .ok (.iadd, 1) := by decide +kernel
theorem dX1_read_63 : decode cX1_read 63 = .ok (.iaload, 1) := by decide +kernel
theorem dX1_read_64 : decode cX1_read 64 = .ok (.ireturn, 1) := by decide +kernel
theorem dX1_write_0 : decode cX1_write 0 = .ok (.iload_n 1, 1) := by decide +kernel
theorem dX1_write_1 : decode cX1_write 1 = .ok (.invokestatic 71, 3) := by decide +kernel
theorem dX1_write_4 : decode cX1_write 4 = .ok (.ifCond .ne 5, 3) := by decide +kernel
theorem dX1_write_7 : decode cX1_write 7 = .ok (.iconst (-1), 1) := by decide +kernel
theorem dX1_write_8 : decode cX1_write 8 = .ok (.ireturn, 1) := by decide +kernel
theorem dX1_write_9 : decode cX1_write 9 = .ok (.iload_n 2, 1) := by decide +kernel
theorem dX1_write_10 : decode cX1_write 10 = .ok (.iconst 0, 1) := by decide +kernel
theorem dX1_write_11 : decode cX1_write 11 = .ok (.bipush 95, 2) := by decide +kernel
theorem dX1_write_13 : decode cX1_write 13 = .ok (.invokestatic 33, 3) := by decide +kernel
theorem dX1_write_16 : decode cX1_write 16 = .ok (.ifCond .eq 27, 3) := by decide +kernel
theorem dX1_write_19 : decode cX1_write 19 = .ok (.iload_n 3, 1) := by decide +kernel
theorem dX1_write_20 : decode cX1_write 20 = .ok (.iconst 1, 1) := by decide +kernel
theorem dX1_write_21 : decode cX1_write 21 = .ok (.bipush 96, 2) := by decide +kernel
theorem dX1_write_23 : decode cX1_write 23 = .ok (.iload_n 2, 1) := by decide +kernel
theorem dX1_write_24 : decode cX1_write 24 = .ok (.isub, 1) := by decide +kernel
theorem dX1_write_25 : decode cX1_write 25 = .ok (.invokestatic 33, 3) := by decide +kernel
theorem dX1_write_28 : decode cX1_write 28 = .ok (.ifCond .eq 15, 3) := by decide +kernel
theorem dX1_write_31 : decode cX1_write 31 = .ok (.iload 4, 2) := by decide +kernel
theorem dX1_write_33 : decode cX1_write 33 = .ok (.iconst 0, 1) := by decide +kernel
theorem dX1_write_34 : decode cX1_write 34 = .ok (.sipush 255, 3) := by decide +kernel
theorem dX1_write_37 : decode cX1_write 37 = .ok (.invokestatic 33, 3) := by decide +kernel
theorem dX1_write_40 : decode cX1_write 40 = .ok (.ifCond .ne 6, 3) := by decide +kernel
theorem dX1_write_43 : decode cX1_write 43 = .ok (.bipush (-2), 2) := by decide +kernel
theorem dX1_write_45 : decode cX1_write 45 = .ok (.ireturn, 1) := by decide +kernel
theorem dX1_write_46 : decode cX1_write 46 = .ok (.aload_n 0, 1) := by decide +kernel
theorem dX1_write_47 : decode cX1_write 47 = .ok (.getfield 74, 3) := by decide +kernel
theorem dX1_write_50 : decode cX1_write 50 = .ok (.ifCond .eq 6, 3) := by decide +kernel
theorem dX1_write_53 : decode cX1_write 53 = .ok (.bipush (-3), 2) := by decide +kernel
theorem dX1_write_55 : decode cX1_write 55 = .ok (.ireturn, 1) := by decide +kernel
theorem dX1_write_56 : decode cX1_write 56 = .ok (.aload_n 0, 1) := by decide +kernel
theorem dX1_write_57 : decode cX1_write 57 = .ok (.iconst 0, 1) := by decide +kernel
theorem dX1_write_58 : decode cX1_write 58 = .ok (.putfield 61, 3) := by decide +kernel
theorem dX1_write_61 : decode cX1_write 61 = .ok (.iload_n 2, 1) := by decide +kernel
theorem dX1_write_62 : decode cX1_write 62 = .ok (.iconst 4, 1) := by decide +kernel
theorem dX1_write_63 : decode cX1_write 63 = .ok (.idiv, 1) := by decide +kernel
theorem dX1_write_64 : decode cX1_write 64 = .ok (.istore 5, 2) := by decide +kernel
theorem dX1_write_66 : decode cX1_write 66 = .ok (.iload 5, 2) := by decide +kernel
theorem dX1_write_68 : decode cX1_write 68 = .ok (.iload_n 2, 1) := by decide +kernel
theorem dX1_write_69 : decode cX1_write 69 = .ok (.iload_n 3, 1) := by decide +kernel
theorem dX1_write_70 : decode cX1_write 70 = .ok (.iadd, 1) := by decide +kernel
theorem dX1_write_71 : decode cX1_write 71 = .ok (.iconst 1, 1) := by decide +kernel
theorem dX1_write_72 : decode cX1_write 72 = .ok (.isub, 1) := by decide +kernel
theorem dX1_write_73 : decode cX1_write 73 = .ok (.iconst 4, 1) := by decide +kernel
theorem dX1_write_74 : decode cX1_write 74 = .ok (.idiv, 1) := by decide +kernel
theorem dX1_write_75 : decode cX1_write 75 = .ok (.if_icmp .gt 17, 3) := by decide +kernel
theorem dX1_write_78 : decode cX1_write 78 = .ok (.aload_n 0, 1) := by decide +kernel
theorem dX1_write_79 : decode cX1_write 79 = .ok (.iload_n 1, 1) := by decide +kernel
theorem dX1_write_80 : decode cX1_write 80 = .ok (.iload 5, 2) := by decide +kernel
theorem dX1_write_82 : decode cX1_write 82 = .ok (.iconst 1, 1) := by decide +kernel
theorem dX1_write_83 : decode cX1_write 83 = .ok (.invokevirtual 78, 3) := by decide +kernel
theorem dX1_write_86 : decode cX1_write 86 = .ok (.iinc 5 1, 3) := by decide +kernel
theorem dX1_write_89 : decode cX1_write 89 = .ok (.goto (-23), 3) := by decide +kernel
theorem dX1_write_92 : decode cX1_write 92 = .ok (.aload_n 0, 1) := by decide +kernel
theorem dX1_write_93 : decode cX1_write 93 = .ok (.iload_n 1, 1) := by decide +kernel
theorem dX1_write_94 : decode cX1_write 94 = .ok (.invokevirtual 81, 3) := by decide +kernel
theorem dX1_write_97 : decode cX1_write 97 = .ok (.ifCond .ne 6, 3) := by decide +kernel
theorem dX1_write_100 : decode cX1_write 100 = .ok (.bipush (-6), 2) := by decide +kernel
theorem dX1_write_102 : decode cX1_write 102 = .ok (.ireturn, 1) := by decide +kernel
theorem dX1_write_103 : decode cX1_write 103 = .ok (.iload_n 2, 1) := by decide +kernel
theorem dX1_write_104 : decode cX1_write 104 = .ok (.istore 5, 2) := by decide +kernel
theorem dX1_write_106 : decode cX1_write 106 = .ok (.iload 5, 2) := by decide +kernel
theorem dX1_write_108 : decode cX1_write 108 = .ok (.iload_n 2, 1) := by decide +kernel
theorem dX1_write_109 : decode cX1_write 109 = .ok (.iload_n 3, 1) := by decide +kernel
theorem dX1_write_110 : decode cX1_write 110 = .ok (.iadd, 1) := by decide +kernel
theorem dX1_write_111 : decode cX1_write 111 = .ok (.if_icmp .ge 37, 3) := by decide +kernel
theorem dX1_write_114 : decode cX1_write 114 = .ok (.aload_n 0, 1) := by decide +kernel
theorem dX1_write_115 : decode cX1_write 115 = .ok (.getfield 7, 3) := by decide +kernel
theorem dX1_write_118 : decode cX1_write 118 = .ok (.iconst 4, 1) := by decide +kernel
theorem dX1_write_119 : decode cX1_write 119 = .ok (.aload_n 0, 1) := by decide +kernel
theorem dX1_write_120 : decode cX1_write 120 = .ok (.getfield 16, 3) := by decide +kernel
theorem dX1_write_123 : decode cX1_write 123 = .ok (.bipush 24, 2) := by decide +kernel
theorem dX1_write_125 : decode cX1_write 125 = .ok (.iload_n 1, 1) := by decide +kernel
theorem dX1_write_126 : decode cX1_write 126 = .ok (.imul, 1) := by decide +kernel
theorem dX1_write_127 : decode cX1_write 127 = .ok (.iload 5, 2) := by decide +kernel
theorem dX1_write_129 : decode cX1_write 129 = .ok (.iconst 4, 1) := by decide +kernel
theorem dX1_write_130 : decode cX1_write 130 = .ok (.idiv, 1) := by decide +kernel
theorem dX1_write_131 : decode cX1_write 131 = .ok (.iadd, 1) := by decide +kernel
theorem dX1_write_132 : decode cX1_write 132 = .ok (.iaload, 1) := by decide +kernel
theorem dX1_write_133 : decode cX1_write 133 = .ok (.imul, 1) := by decide +kernel
theorem dX1_write_134 : decode cX1_write 134 = .ok (.iload 5, 2) := by decide +kernel
theorem dX1_write_136 : decode cX1_write 136 = .ok (.iconst 4, 1) := by decide +kernel
theorem dX1_write_137 : decode cX1_write 137 = .ok (.irem, 1) := by decide +kernel
theorem dX1_write_138 : decode cX1_write 138 = .ok (.iadd, 1) := by decide +kernel
theorem dX1_write_139 : decode cX1_write 139 = .ok (.iload 4, 2) := by decide +kernel
theorem dX1_write_141 : decode cX1_write 141 = .ok (.iastore, 1) := by decide +kernel
theorem dX1_write_142 : decode cX1_write 142 = .ok (.iinc 5 1, 3) := by decide +kernel
theorem dX1_write_145 : decode cX1_write 145 = .ok (.goto (-39), 3) := by decide +kernel
theorem dX1_write_148 : decode cX1_write 148 = .ok (.aload_n 0, 1) := by decide +kernel
theorem dX1_write_149 : decode cX1_write 149 = .ok (.getfield 13, 3) := by decide +kernel
theorem dX1_write_152 : decode cX1_write 152 = .ok (.iload_n 1, 1) := by decide +kernel
theorem dX1_write_153 : decode cX1_write 153 = .ok (.iload_n 2, 1) := by decide +kernel
theorem dX1_write_154 : decode cX1_write 154 = .ok (.iload_n 3, 1) := by decide +kernel
theorem dX1_write_155 : decode cX1_write 155 = .ok (.iadd, 1) := by decide +kernel
theorem dX1_write_156 : decode cX1_write 156 = .ok (.aload_n 0, 1) := by decide +kernel
theorem dX1_write_157 : decode cX1_write 157 = .ok (.getfield 13, 3) := by decide +kernel
theorem dX1_write_160 : decode cX1_write 160 = .ok (.iload_n 1, 1) := by decide +kernel
theorem dX1_write_161 : decode cX1_write 161 = .ok (.iaload, 1) := by decide +kernel
theorem dX1_write_162 : decode cX1_write 162 = .ok (.if_icmp .le 9, 3) := by decide +kernel
theorem dX1_write_165 : decode cX1_write 165 = .ok (.iload_n 2, 1) := by decide +kernel
theorem dX1_write_166 : decode cX1_write 166 = .ok (.iload_n 3, 1) := by decide +kernel
theorem dX1_write_167 : decode cX1_write 167 = .ok (.iadd, 1) := by decide +kernel
theorem dX1_write_168 : decode cX1_write 168 = .ok (.goto 9, 3) := by decide +kernel
theorem dX1_write_171 : decode cX1_write 171 = .ok (.aload_n 0, 1) := by decide +kernel
theorem dX1_write_172 : decode cX1_write 172 = .ok (.getfield 13, 3) := by decide +kernel
theorem dX1_write_175 : decode cX1_write 175 = .ok (.iload_n 1, 1) := by decide +kernel
theorem dX1_write_176 : decode cX1_write 176 = .ok (.iaload, 1) := by decide +kernel
theorem dX1_write_177 : decode cX1_write 177 = .ok (.iastore, 1) := by decide +kernel
theorem dX1_write_178 : decode cX1_write 178 = .ok (.aload_n 0, 1) := by decide +kernel
theorem dX1_write_179 : decode cX1_write 179 = .ok (.getfield 13, 3) := by decide +kernel
theorem dX1_write_182 : decode cX1_write 182 = .ok (.iload_n 1, 1) := by decide +kernel
theorem dX1_write_183 : decode cX1_write 183 = .ok (.iaload, 1) := by decide +kernel
theorem dX1_write_184 : decode cX1_write 184 = .ok (.ireturn, 1) := by decide +kernel
theorem dX1_isWhole_0 : decode cX1_isWhole 0 = .ok (.iconst 4, 1) := by decide +kernel
theorem dX1_isWhole_1 : decode cX1_isWhole 1 = .ok (.iload_n 2, 1) := by decide +kernel
theorem dX1_isWhole_2 : decode cX1_isWhole 2 = .ok (.imul, 1) := by decide +kernel
theorem dX1_isWhole_3 : decode cX1_isWhole 3 = .ok (.istore 5, 2) := by decide +kernel
theorem dX1_isWhole_5 : decode cX1_isWhole 5 = .ok (.iconst 4, 1) := by decide +kernel
theorem dX1_isWhole_6 : decode cX1_isWhole 6 = .ok (.iload_n 2, 1) := by decide +kernel
theorem dX1_isWhole_7 : decode cX1_isWhole 7 = .ok (.imul, 1) := by decide +kernel
theorem dX1_isWhole_8 : decode cX1_isWhole 8 = .ok (.iconst 4, 1) := by decide +kernel
theorem dX1_isWhole_9 : decode cX1_isWhole 9 = .ok (.iadd, 1) := by decide +kernel
theorem dX1_isWhole_10 : decode cX1_isWhole 10 = .ok (.aload_n 0, 1) := by decide +kernel
theorem dX1_isWhole_11 : decode cX1_isWhole 11 = .ok (.getfield 13, 3) := by decide +kernel
theorem dX1_isWhole_14 : decode cX1_isWhole 14 = .ok (.iload_n 1, 1) := by decide +kernel
theorem dX1_isWhole_15 : decode cX1_isWhole 15 = .ok (.iaload, 1) := by decide +kernel
theorem dX1_isWhole_16 : decode cX1_isWhole 16 = .ok (.if_icmp .ge 11, 3) := by decide +kernel
theorem dX1_isWhole_19 : decode cX1_isWhole 19 = .ok (.iconst 4, 1) := by decide +kernel
theorem dX1_isWhole_20 : decode cX1_isWhole 20 = .ok (.iload_n 2, 1) := by decide +kernel
theorem dX1_isWhole_21 : decode cX1_isWhole 21 = .ok (.imul, 1) := by decide +kernel
theorem dX1_isWhole_22 : decode cX1_isWhole 22 = .ok (.iconst 4, 1) := by decide +kernel
theorem dX1_isWhole_23 : decode cX1_isWhole 23 = .ok (.iadd, 1) := by decide +kernel
theorem dX1_isWhole_24 : decode cX1_isWhole 24 = .ok (.goto 9, 3) := by decide +kernel
theorem dX1_isWhole_27 : decode cX1_isWhole 27 = .ok (.aload_n 0, 1) := by decide +kernel
theorem dX1_isWhole_28 : decode cX1_isWhole 28 = .ok (.getfield 13, 3) := by decide +kernel
theorem dX1_isWhole_31 : decode cX1_isWhole 31 = .ok (.iload_n 1, 1) := by decide +kernel
theorem dX1_isWhole_32 : decode cX1_isWhole 32 = .ok (.iaload, 1) := by decide +kernel
theorem dX1_isWhole_33 : decode cX1_isWhole 33 = .ok (.istore 6, 2) := by decide +kernel
theorem dX1_isWhole_35 : decode cX1_isWhole 35 = .ok (.iload_n 3, 1) := by decide +kernel
theorem dX1_isWhole_36 : decode cX1_isWhole 36 = .ok (.iload 5, 2) := by decide +kernel
theorem dX1_isWhole_38 : decode cX1_isWhole 38 = .ok (.if_icmp .gt 14, 3) := by decide +kernel
theorem dX1_isWhole_41 : decode cX1_isWhole 41 = .ok (.iload 4, 2) := by decide +kernel
theorem dX1_isWhole_43 : decode cX1_isWhole 43 = .ok (.iload 6, 2) := by decide +kernel
theorem dX1_isWhole_45 : decode cX1_isWhole 45 = .ok (.if_icmp .lt 7, 3) := by decide +kernel
theorem dX1_isWhole_48 : decode cX1_isWhole 48 = .ok (.iconst 1, 1) := by decide +kernel
theorem dX1_isWhole_49 : decode cX1_isWhole 49 = .ok (.goto 4, 3) := by decide +kernel
theorem dX1_isWhole_52 : decode cX1_isWhole 52 = .ok (.iconst 0, 1) := by decide +kernel
theorem dX1_isWhole_53 : decode cX1_isWhole 53 = .ok (.ireturn, 1) := by decide +kernel
theorem dX1_punches_0 : decode cX1_punches 0 = .ok (.aload_n 0, 1) := by decide +kernel
theorem dX1_punches_1 : decode cX1_punches 1 = .ok (.iconst 0, 1) := by decide +kernel
theorem dX1_punches_2 : decode cX1_punches 2 = .ok (.putfield 84, 3) := by decide +kernel
theorem dX1_punches_5 : decode cX1_punches 5 = .ok (.aload_n 0, 1) := by decide +kernel
theorem dX1_punches_6 : decode cX1_punches 6 = .ok (.iconst 0, 1) := by decide +kernel
theorem dX1_punches_7 : decode cX1_punches 7 = .ok (.putfield 61, 3) := by decide +kernel
theorem dX1_punches_10 : decode cX1_punches 10 = .ok (.iload_n 2, 1) := by decide +kernel
theorem dX1_punches_11 : decode cX1_punches 11 = .ok (.iconst 4, 1) := by decide +kernel
theorem dX1_punches_12 : decode cX1_punches 12 = .ok (.idiv, 1) := by decide +kernel
theorem dX1_punches_13 : decode cX1_punches 13 = .ok (.istore 4, 2) := by decide +kernel
theorem dX1_punches_15 : decode cX1_punches 15 = .ok (.iconst 4, 1) := by decide +kernel
theorem dX1_punches_16 : decode cX1_punches 16 = .ok (.iload 4, 2) := by decide +kernel
theorem dX1_punches_18 : decode cX1_punches 18 = .ok (.imul, 1) := by decide +kernel
theorem dX1_punches_19 : decode cX1_punches 19 = .ok (.iload_n 3, 1) := by decide +kernel
theorem dX1_punches_20 : decode cX1_punches 20 = .ok (.if_icmp .ge 29, 3) := by decide +kernel
theorem dX1_punches_23 : decode cX1_punches 23 = .ok (.aload_n 0, 1) := by decide +kernel
theorem dX1_punches_24 : decode cX1_punches 24 = .ok (.iload_n 1, 1) := by decide +kernel
theorem dX1_punches_25 : decode cX1_punches 25 = .ok (.iload 4, 2) := by decide +kernel
theorem dX1_punches_27 : decode cX1_punches 27 = .ok (.iload_n 2, 1) := by decide +kernel
theorem dX1_punches_28 : decode cX1_punches 28 = .ok (.iload_n 3, 1) := by decide +kernel
theorem dX1_punches_29 : decode cX1_punches 29 = .ok (.invokevirtual 87, 3) := by decide +kernel
theorem dX1_punches_32 : decode cX1_punches 32 = .ok (.ifCond .ne 11, 3) := by decide +kernel
theorem dX1_punches_35 : decode cX1_punches 35 = .ok (.aload_n 0, 1) := by decide +kernel
theorem dX1_punches_36 : decode cX1_punches 36 = .ok (.iload_n 1, 1) := by decide +kernel
theorem dX1_punches_37 : decode cX1_punches 37 = .ok (.iload 4, 2) := by decide +kernel
theorem dX1_punches_39 : decode cX1_punches 39 = .ok (.iconst 0, 1) := by decide +kernel
theorem dX1_punches_40 : decode cX1_punches 40 = .ok (.invokevirtual 78, 3) := by decide +kernel
theorem dX1_punches_43 : decode cX1_punches 43 = .ok (.iinc 4 1, 3) := by decide +kernel
theorem dX1_punches_46 : decode cX1_punches 46 = .ok (.goto (-31), 3) := by decide +kernel
theorem dX1_punches_49 : decode cX1_punches 49 = .ok (.aload_n 0, 1) := by decide +kernel
theorem dX1_punches_50 : decode cX1_punches 50 = .ok (.iload_n 1, 1) := by decide +kernel
theorem dX1_punches_51 : decode cX1_punches 51 = .ok (.invokevirtual 81, 3) := by decide +kernel
theorem dX1_punches_54 : decode cX1_punches 54 = .ok (.ifCond .ne 5, 3) := by decide +kernel
theorem dX1_punches_57 : decode cX1_punches 57 = .ok (.iconst 0, 1) := by decide +kernel
theorem dX1_punches_58 : decode cX1_punches 58 = .ok (.ireturn, 1) := by decide +kernel
theorem dX1_punches_59 : decode cX1_punches 59 = .ok (.iload_n 2, 1) := by decide +kernel
theorem dX1_punches_60 : decode cX1_punches 60 = .ok (.iconst 4, 1) := by decide +kernel
theorem dX1_punches_61 : decode cX1_punches 61 = .ok (.idiv, 1) := by decide +kernel
theorem dX1_punches_62 : decode cX1_punches 62 = .ok (.istore 4, 2) := by decide +kernel
theorem dX1_punches_64 : decode cX1_punches 64 = .ok (.iconst 4, 1) := by decide +kernel
theorem dX1_punches_65 : decode cX1_punches 65 = .ok (.iload 4, 2) := by decide +kernel
theorem dX1_punches_67 : decode cX1_punches 67 = .ok (.imul, 1) := by decide +kernel
theorem dX1_punches_68 : decode cX1_punches 68 = .ok (.iload_n 3, 1) := by decide +kernel
theorem dX1_punches_69 : decode cX1_punches 69 = .ok (.if_icmp .ge 18, 3) := by decide +kernel
theorem dX1_punches_72 : decode cX1_punches 72 = .ok (.aload_n 0, 1) := by decide +kernel
theorem dX1_punches_73 : decode cX1_punches 73 = .ok (.iload_n 1, 1) := by decide +kernel
theorem dX1_punches_74 : decode cX1_punches 74 = .ok (.iload 4, 2) := by decide +kernel
theorem dX1_punches_76 : decode cX1_punches 76 = .ok (.iload_n 2, 1) := by decide +kernel
theorem dX1_punches_77 : decode cX1_punches 77 = .ok (.iload_n 3, 1) := by decide +kernel
theorem dX1_punches_78 : decode cX1_punches 78 = .ok (.invokevirtual 91, 3) := by decide +kernel
theorem dX1_punches_81 : decode cX1_punches 81 = .ok (.iinc 4 1, 3) := by decide +kernel
theorem dX1_punches_84 : decode cX1_punches 84 = .ok (.goto (-20), 3) := by decide +kernel
theorem dX1_punches_87 : decode cX1_punches 87 = .ok (.iconst 1, 1) := by decide +kernel
theorem dX1_punches_88 : decode cX1_punches 88 = .ok (.ireturn, 1) := by decide +kernel
theorem dX1_clears_0 : decode cX1_clears 0 = .ok (.bipush 24, 2) := by decide +kernel
theorem dX1_clears_2 : decode cX1_clears 2 = .ok (.iload_n 1, 1) := by decide +kernel
theorem dX1_clears_3 : decode cX1_clears 3 = .ok (.imul, 1) := by decide +kernel
theorem dX1_clears_4 : decode cX1_clears 4 = .ok (.iload_n 2, 1) := by decide +kernel
theorem dX1_clears_5 : decode cX1_clears 5 = .ok (.iadd, 1) := by decide +kernel
theorem dX1_clears_6 : decode cX1_clears 6 = .ok (.istore 5, 2) := by decide +kernel
theorem dX1_clears_8 : decode cX1_clears 8 = .ok (.aload_n 0, 1) := by decide +kernel
theorem dX1_clears_9 : decode cX1_clears 9 = .ok (.iload_n 1, 1) := by decide +kernel
theorem dX1_clears_10 : decode cX1_clears 10 = .ok (.iload_n 2, 1) := by decide +kernel
theorem dX1_clears_11 : decode cX1_clears 11 = .ok (.iload_n 3, 1) := by decide +kernel
theorem dX1_clears_12 : decode cX1_clears 12 = .ok (.iload 4, 2) := by decide +kernel
theorem dX1_clears_14 : decode cX1_clears 14 = .ok (.invokevirtual 87, 3) := by decide +kernel
theorem dX1_clears_17 : decode cX1_clears 17 = .ok (.ifCond .eq 41, 3) := by decide +kernel
theorem dX1_clears_20 : decode cX1_clears 20 = .ok (.aload_n 0, 1) := by decide +kernel
theorem dX1_clears_21 : decode cX1_clears 21 = .ok (.dup, 1) := by decide +kernel
theorem dX1_clears_22 : decode cX1_clears 22 = .ok (.getfield 84, 3) := by decide +kernel
theorem dX1_clears_25 : decode cX1_clears 25 = .ok (.aload_n 0, 1) := by decide +kernel
theorem dX1_clears_26 : decode cX1_clears 26 = .ok (.getfield 16, 3) := by decide +kernel
theorem dX1_clears_29 : decode cX1_clears 29 = .ok (.iload 5, 2) := by decide +kernel
theorem dX1_clears_31 : decode cX1_clears 31 = .ok (.iaload, 1) := by decide +kernel
theorem dX1_clears_32 : decode cX1_clears 32 = .ok (.bipush (-9), 2) := by decide +kernel
theorem dX1_clears_34 : decode cX1_clears 34 = .ok (.if_icmp .eq 7, 3) := by decide +kernel
theorem dX1_clears_37 : decode cX1_clears 37 = .ok (.iconst 1, 1) := by decide +kernel
theorem dX1_clears_38 : decode cX1_clears 38 = .ok (.goto 4, 3) := by decide +kernel
theorem dX1_clears_41 : decode cX1_clears 41 = .ok (.iconst 0, 1) := by decide +kernel
theorem dX1_clears_42 : decode cX1_clears 42 = .ok (.iadd, 1) := by decide +kernel
theorem dX1_clears_43 : decode cX1_clears 43 = .ok (.putfield 84, 3) := by decide +kernel
theorem dX1_clears_46 : decode cX1_clears 46 = .ok (.aload_n 0, 1) := by decide +kernel
theorem dX1_clears_47 : decode cX1_clears 47 = .ok (.getfield 16, 3) := by decide +kernel
theorem dX1_clears_50 : decode cX1_clears 50 = .ok (.iload 5, 2) := by decide +kernel
theorem dX1_clears_52 : decode cX1_clears 52 = .ok (.bipush (-9), 2) := by decide +kernel
theorem dX1_clears_54 : decode cX1_clears 54 = .ok (.iastore, 1) := by decide +kernel
theorem dX1_clears_55 : decode cX1_clears 55 = .ok (.goto 89, 3) := by decide +kernel
theorem dX1_clears_58 : decode cX1_clears 58 = .ok (.aload_n 0, 1) := by decide +kernel
theorem dX1_clears_59 : decode cX1_clears 59 = .ok (.getfield 16, 3) := by decide +kernel
theorem dX1_clears_62 : decode cX1_clears 62 = .ok (.iload 5, 2) := by decide +kernel
theorem dX1_clears_64 : decode cX1_clears 64 = .ok (.iaload, 1) := by decide +kernel
theorem dX1_clears_65 : decode cX1_clears 65 = .ok (.bipush (-9), 2) := by decide +kernel
theorem dX1_clears_67 : decode cX1_clears 67 = .ok (.if_icmp .eq 77, 3) := by decide +kernel
theorem dX1_clears_70 : decode cX1_clears 70 = .ok (.iconst 0, 1) := by decide +kernel
theorem dX1_clears_71 : decode cX1_clears 71 = .ok (.istore 6, 2) := by decide +kernel
theorem dX1_clears_73 : decode cX1_clears 73 = .ok (.iload 6, 2) := by decide +kernel
theorem dX1_clears_75 : decode cX1_clears 75 = .ok (.iconst 4, 1) := by decide +kernel
theorem dX1_clears_76 : decode cX1_clears 76 = .ok (.if_icmp .ge 68, 3) := by decide +kernel
theorem dX1_clears_79 : decode cX1_clears 79 = .ok (.iconst 4, 1) := by decide +kernel
theorem dX1_clears_80 : decode cX1_clears 80 = .ok (.iload_n 2, 1) := by decide +kernel
theorem dX1_clears_81 : decode cX1_clears 81 = .ok (.imul, 1) := by decide +kernel
theorem dX1_clears_82 : decode cX1_clears 82 = .ok (.iload 6, 2) := by decide +kernel
theorem dX1_clears_84 : decode cX1_clears 84 = .ok (.iadd, 1) := by decide +kernel
theorem dX1_clears_85 : decode cX1_clears 85 = .ok (.iload_n 3, 1) := by decide +kernel
theorem dX1_clears_86 : decode cX1_clears 86 = .ok (.iload 4, 2) := by decide +kernel
theorem dX1_clears_88 : decode cX1_clears 88 = .ok (.iconst 1, 1) := by decide +kernel
theorem dX1_clears_89 : decode cX1_clears 89 = .ok (.isub, 1) := by decide +kernel
theorem dX1_clears_90 : decode cX1_clears 90 = .ok (.invokestatic 33, 3) := by decide +kernel
theorem dX1_clears_93 : decode cX1_clears 93 = .ok (.istore 7, 2) := by decide +kernel
theorem dX1_clears_95 : decode cX1_clears 95 = .ok (.aload_n 0, 1) := by decide +kernel
theorem dX1_clears_96 : decode cX1_clears 96 = .ok (.getfield 7, 3) := by decide +kernel
theorem dX1_clears_99 : decode cX1_clears 99 = .ok (.iconst 4, 1) := by decide +kernel
theorem dX1_clears_100 : decode cX1_clears 100 = .ok (.aload_n 0, 1) := by decide +kernel
theorem dX1_clears_101 : decode cX1_clears 101 = .ok (.getfield 16, 3) := by decide +kernel
theorem dX1_clears_104 : decode cX1_clears 104 = .ok (.iload 5, 2) := by decide +kernel
theorem dX1_clears_106 : decode cX1_clears 106 = .ok (.iaload, 1) := by decide +kernel
theorem dX1_clears_107 : decode cX1_clears 107 = .ok (.imul, 1) := by decide +kernel
theorem dX1_clears_108 : decode cX1_clears 108 = .ok (.iload 6, 2) := by decide +kernel
theorem dX1_clears_110 : decode cX1_clears 110 = .ok (.iadd, 1) := by decide +kernel
theorem dX1_clears_111 : decode cX1_clears 111 = .ok (.iload 7, 2) := by decide +kernel
theorem dX1_clears_113 : decode cX1_clears 113 = .ok (.ifCond .eq 7, 3) := by decide +kernel
theorem dX1_clears_116 : decode cX1_clears 116 = .ok (.iconst 0, 1) := by decide +kernel
theorem dX1_clears_117 : decode cX1_clears 117 = .ok (.goto 20, 3) := by decide +kernel
theorem dX1_clears_120 : decode cX1_clears 120 = .ok (.aload_n 0, 1) := by decide +kernel
theorem dX1_clears_121 : decode cX1_clears 121 = .ok (.getfield 7, 3) := by decide +kernel
theorem dX1_clears_124 : decode cX1_clears 124 = .ok (.iconst 4, 1) := by decide +kernel
theorem dX1_clears_125 : decode cX1_clears 125 = .ok (.aload_n 0, 1) := by decide +kernel
theorem dX1_clears_126 : decode cX1_clears 126 = .ok (.getfield 16, 3) := by decide +kernel
theorem dX1_clears_129 : decode cX1_clears 129 = .ok (.iload 5, 2) := by decide +kernel
theorem dX1_clears_131 : decode cX1_clears 131 = .ok (.iaload, 1) := by decide +kernel
theorem dX1_clears_132 : decode cX1_clears 132 = .ok (.imul, 1) := by decide +kernel
theorem dX1_clears_133 : decode cX1_clears 133 = .ok (.iload 6, 2) := by decide +kernel
theorem dX1_clears_135 : decode cX1_clears 135 = .ok (.iadd, 1) := by decide +kernel
theorem dX1_clears_136 : decode cX1_clears 136 = .ok (.iaload, 1) := by decide +kernel
theorem dX1_clears_137 : decode cX1_clears 137 = .ok (.iastore, 1) := by decide +kernel
theorem dX1_clears_138 : decode cX1_clears 138 = .ok (.iinc 6 1, 3) := by decide +kernel
theorem dX1_clears_141 : decode cX1_clears 141 = .ok (.goto (-68), 3) := by decide +kernel
theorem dX1_clears_144 : decode cX1_clears 144 = .ok (.return_, 1) := by decide +kernel
theorem dX1_cut_0 : decode cX1_cut 0 = .ok (.iload_n 1, 1) := by decide +kernel
theorem dX1_cut_1 : decode cX1_cut 1 = .ok (.invokestatic 71, 3) := by decide +kernel
theorem dX1_cut_4 : decode cX1_cut 4 = .ok (.ifCond .ne 5, 3) := by decide +kernel
theorem dX1_cut_7 : decode cX1_cut 7 = .ok (.iconst (-1), 1) := by decide +kernel
theorem dX1_cut_8 : decode cX1_cut 8 = .ok (.ireturn, 1) := by decide +kernel
theorem dX1_cut_9 : decode cX1_cut 9 = .ok (.iload_n 2, 1) := by decide +kernel
theorem dX1_cut_10 : decode cX1_cut 10 = .ok (.iconst 0, 1) := by decide +kernel
theorem dX1_cut_11 : decode cX1_cut 11 = .ok (.bipush 96, 2) := by decide +kernel
theorem dX1_cut_13 : decode cX1_cut 13 = .ok (.invokestatic 33, 3) := by decide +kernel
theorem dX1_cut_16 : decode cX1_cut 16 = .ok (.ifCond .ne 6, 3) := by decide +kernel
theorem dX1_cut_19 : decode cX1_cut 19 = .ok (.bipush (-2), 2) := by decide +kernel
theorem dX1_cut_21 : decode cX1_cut 21 = .ok (.ireturn, 1) := by decide +kernel
theorem dX1_cut_22 : decode cX1_cut 22 = .ok (.aload_n 0, 1) := by decide +kernel
theorem dX1_cut_23 : decode cX1_cut 23 = .ok (.getfield 74, 3) := by decide +kernel
theorem dX1_cut_26 : decode cX1_cut 26 = .ok (.ifCond .eq 6, 3) := by decide +kernel
theorem dX1_cut_29 : decode cX1_cut 29 = .ok (.bipush (-3), 2) := by decide +kernel
theorem dX1_cut_31 : decode cX1_cut 31 = .ok (.ireturn, 1) := by decide +kernel
theorem dX1_cut_32 : decode cX1_cut 32 = .ok (.aload_n 0, 1) := by decide +kernel
theorem dX1_cut_33 : decode cX1_cut 33 = .ok (.getfield 13, 3) := by decide +kernel
theorem dX1_cut_36 : decode cX1_cut 36 = .ok (.iload_n 1, 1) := by decide +kernel
theorem dX1_cut_37 : decode cX1_cut 37 = .ok (.iaload, 1) := by decide +kernel
theorem dX1_cut_38 : decode cX1_cut 38 = .ok (.istore_n 3, 1) := by decide +kernel
theorem dX1_cut_39 : decode cX1_cut 39 = .ok (.iload_n 2, 1) := by decide +kernel
theorem dX1_cut_40 : decode cX1_cut 40 = .ok (.iload_n 3, 1) := by decide +kernel
theorem dX1_cut_41 : decode cX1_cut 41 = .ok (.if_icmp .ge 16, 3) := by decide +kernel
theorem dX1_cut_44 : decode cX1_cut 44 = .ok (.aload_n 0, 1) := by decide +kernel
theorem dX1_cut_45 : decode cX1_cut 45 = .ok (.iload_n 1, 1) := by decide +kernel
theorem dX1_cut_46 : decode cX1_cut 46 = .ok (.iload_n 2, 1) := by decide +kernel
theorem dX1_cut_47 : decode cX1_cut 47 = .ok (.iload_n 3, 1) := by decide +kernel
theorem dX1_cut_48 : decode cX1_cut 48 = .ok (.invokevirtual 95, 3) := by decide +kernel
theorem dX1_cut_51 : decode cX1_cut 51 = .ok (.ifCond .ne 6, 3) := by decide +kernel
theorem dX1_cut_54 : decode cX1_cut 54 = .ok (.bipush (-6), 2) := by decide +kernel
theorem dX1_cut_56 : decode cX1_cut 56 = .ok (.ireturn, 1) := by decide +kernel
theorem dX1_cut_57 : decode cX1_cut 57 = .ok (.aload_n 0, 1) := by decide +kernel
theorem dX1_cut_58 : decode cX1_cut 58 = .ok (.getfield 13, 3) := by decide +kernel
theorem dX1_cut_61 : decode cX1_cut 61 = .ok (.iload_n 1, 1) := by decide +kernel
theorem dX1_cut_62 : decode cX1_cut 62 = .ok (.iload_n 2, 1) := by decide +kernel
theorem dX1_cut_63 : decode cX1_cut 63 = .ok (.iastore, 1) := by decide +kernel
theorem dX1_cut_64 : decode cX1_cut 64 = .ok (.iload_n 3, 1) := by decide +kernel
theorem dX1_cut_65 : decode cX1_cut 65 = .ok (.ireturn, 1) := by decide +kernel
theorem dX1_punch_0 : decode cX1_punch 0 = .ok (.iload_n 1, 1) := by decide +kernel
theorem dX1_punch_1 : decode cX1_punch 1 = .ok (.invokestatic 71, 3) := by decide +kernel
theorem dX1_punch_4 : decode cX1_punch 4 = .ok (.ifCond .ne 5, 3) := by decide +kernel
theorem dX1_punch_7 : decode cX1_punch 7 = .ok (.iconst (-1), 1) := by decide +kernel
theorem dX1_punch_8 : decode cX1_punch 8 = .ok (.ireturn, 1) := by decide +kernel
theorem dX1_punch_9 : decode cX1_punch 9 = .ok (.iload_n 2, 1) := by decide +kernel
theorem dX1_punch_10 : decode cX1_punch 10 = .ok (.iconst 0, 1) := by decide +kernel
theorem dX1_punch_11 : decode cX1_punch 11 = .ok (.bipush 95, 2) := by decide +kernel
theorem dX1_punch_13 : decode cX1_punch 13 = .ok (.invokestatic 33, 3) := by decide +kernel
theorem dX1_punch_16 : decode cX1_punch 16 = .ok (.ifCond .eq 15, 3) := by decide +kernel
theorem dX1_punch_19 : decode cX1_punch 19 = .ok (.iload_n 3, 1) := by decide +kernel
theorem dX1_punch_20 : decode cX1_punch 20 = .ok (.iconst 1, 1) := by decide +kernel
theorem dX1_punch_21 : decode cX1_punch 21 = .ok (.bipush 96, 2) := by decide +kernel
theorem dX1_punch_23 : decode cX1_punch 23 = .ok (.iload_n 2, 1) := by decide +kernel
theorem dX1_punch_24 : decode cX1_punch 24 = .ok (.isub, 1) := by decide +kernel
theorem dX1_punch_25 : decode cX1_punch 25 = .ok (.invokestatic 33, 3) := by decide +kernel
theorem dX1_punch_28 : decode cX1_punch 28 = .ok (.ifCond .ne 6, 3) := by decide +kernel
theorem dX1_punch_31 : decode cX1_punch 31 = .ok (.bipush (-2), 2) := by decide +kernel
theorem dX1_punch_33 : decode cX1_punch 33 = .ok (.ireturn, 1) := by decide +kernel
theorem dX1_punch_34 : decode cX1_punch 34 = .ok (.aload_n 0, 1) := by decide +kernel
theorem dX1_punch_35 : decode cX1_punch 35 = .ok (.getfield 74, 3) := by decide +kernel
theorem dX1_punch_38 : decode cX1_punch 38 = .ok (.ifCond .eq 6, 3) := by decide +kernel
theorem dX1_punch_41 : decode cX1_punch 41 = .ok (.bipush (-3), 2) := by decide +kernel
theorem dX1_punch_43 : decode cX1_punch 43 = .ok (.ireturn, 1) := by decide +kernel
theorem dX1_punch_44 : decode cX1_punch 44 = .ok (.iload_n 2, 1) := by decide +kernel
theorem dX1_punch_45 : decode cX1_punch 45 = .ok (.iload_n 3, 1) := by decide +kernel
theorem dX1_punch_46 : decode cX1_punch 46 = .ok (.iadd, 1) := by decide +kernel
theorem dX1_punch_47 : decode cX1_punch 47 = .ok (.aload_n 0, 1) := by decide +kernel
theorem dX1_punch_48 : decode cX1_punch 48 = .ok (.getfield 13, 3) := by decide +kernel
theorem dX1_punch_51 : decode cX1_punch 51 = .ok (.iload_n 1, 1) := by decide +kernel
theorem dX1_punch_52 : decode cX1_punch 52 = .ok (.iaload, 1) := by decide +kernel
theorem dX1_punch_53 : decode cX1_punch 53 = .ok (.if_icmp .ge 9, 3) := by decide +kernel
theorem dX1_punch_56 : decode cX1_punch 56 = .ok (.iload_n 2, 1) := by decide +kernel
theorem dX1_punch_57 : decode cX1_punch 57 = .ok (.iload_n 3, 1) := by decide +kernel
theorem dX1_punch_58 : decode cX1_punch 58 = .ok (.iadd, 1) := by decide +kernel
theorem dX1_punch_59 : decode cX1_punch 59 = .ok (.goto 9, 3) := by decide +kernel
theorem dX1_punch_62 : decode cX1_punch 62 = .ok (.aload_n 0, 1) := by decide +kernel
theorem dX1_punch_63 : decode cX1_punch 63 = .ok (.getfield 13, 3) := by decide +kernel
theorem dX1_punch_66 : decode cX1_punch 66 = .ok (.iload_n 1, 1) := by decide +kernel
theorem dX1_punch_67 : decode cX1_punch 67 = .ok (.iaload, 1) := by decide +kernel
theorem dX1_punch_68 : decode cX1_punch 68 = .ok (.istore 4, 2) := by decide +kernel
theorem dX1_punch_70 : decode cX1_punch 70 = .ok (.iload_n 2, 1) := by decide +kernel
theorem dX1_punch_71 : decode cX1_punch 71 = .ok (.iload 4, 2) := by decide +kernel
theorem dX1_punch_73 : decode cX1_punch 73 = .ok (.if_icmp .lt 5, 3) := by decide +kernel
theorem dX1_punch_76 : decode cX1_punch 76 = .ok (.iconst 0, 1) := by decide +kernel
theorem dX1_punch_77 : decode cX1_punch 77 = .ok (.ireturn, 1) := by decide +kernel
theorem dX1_punch_78 : decode cX1_punch 78 = .ok (.aload_n 0, 1) := by decide +kernel
theorem dX1_punch_79 : decode cX1_punch 79 = .ok (.iload_n 1, 1) := by decide +kernel
theorem dX1_punch_80 : decode cX1_punch 80 = .ok (.iload_n 2, 1) := by decide +kernel
theorem dX1_punch_81 : decode cX1_punch 81 = .ok (.iload 4, 2) := by decide +kernel
theorem dX1_punch_83 : decode cX1_punch 83 = .ok (.invokevirtual 95, 3) := by decide +kernel
theorem dX1_punch_86 : decode cX1_punch 86 = .ok (.ifCond .eq 10, 3) := by decide +kernel
theorem dX1_punch_89 : decode cX1_punch 89 = .ok (.aload_n 0, 1) := by decide +kernel
theorem dX1_punch_90 : decode cX1_punch 90 = .ok (.getfield 84, 3) := by decide +kernel
theorem dX1_punch_93 : decode cX1_punch 93 = .ok (.goto 5, 3) := by decide +kernel
theorem dX1_punch_96 : decode cX1_punch 96 = .ok (.bipush (-6), 2) := by decide +kernel
theorem dX1_punch_98 : decode cX1_punch 98 = .ok (.ireturn, 1) := by decide +kernel
theorem dX1_isPlace_0 : decode cX1_isPlace 0 = .ok (.iload_n 0, 1) := by decide +kernel
theorem dX1_isPlace_1 : decode cX1_isPlace 1 = .ok (.iconst 0, 1) := by decide +kernel
theorem dX1_isPlace_2 : decode cX1_isPlace 2 = .ok (.bipush 23, 2) := by decide +kernel
theorem dX1_isPlace_4 : decode cX1_isPlace 4 = .ok (.invokestatic 33, 3) := by decide +kernel
theorem dX1_isPlace_7 : decode cX1_isPlace 7 = .ok (.ireturn, 1) := by decide +kernel
theorem dX1_collapse_0 : decode cX1_collapse 0 = .ok (.iload_n 1, 1) := by decide +kernel
theorem dX1_collapse_1 : decode cX1_collapse 1 = .ok (.invokestatic 71, 3) := by decide +kernel
theorem dX1_collapse_4 : decode cX1_collapse 4 = .ok (.ifCond .ne 5, 3) := by decide +kernel
theorem dX1_collapse_7 : decode cX1_collapse 7 = .ok (.iconst (-1), 1) := by decide +kernel
theorem dX1_collapse_8 : decode cX1_collapse 8 = .ok (.ireturn, 1) := by decide +kernel
theorem dX1_collapse_9 : decode cX1_collapse 9 = .ok (.iload_n 2, 1) := by decide +kernel
theorem dX1_collapse_10 : decode cX1_collapse 10 = .ok (.invokestatic 98, 3) := by decide +kernel
theorem dX1_collapse_13 : decode cX1_collapse 13 = .ok (.ifCond .eq 15, 3) := by decide +kernel
theorem dX1_collapse_16 : decode cX1_collapse 16 = .ok (.iload_n 3, 1) := by decide +kernel
theorem dX1_collapse_17 : decode cX1_collapse 17 = .ok (.iconst 1, 1) := by decide +kernel
theorem dX1_collapse_18 : decode cX1_collapse 18 = .ok (.bipush 24, 2) := by decide +kernel
theorem dX1_collapse_20 : decode cX1_collapse 20 = .ok (.iload_n 2, 1) := by decide +kernel
theorem dX1_collapse_21 : decode cX1_collapse 21 = .ok (.isub, 1) := by decide +kernel
theorem dX1_collapse_22 : decode cX1_collapse 22 = .ok (.invokestatic 33, 3) := by decide +kernel
theorem dX1_collapse_25 : decode cX1_collapse 25 = .ok (.ifCond .ne 6, 3) := by decide +kernel
theorem dX1_collapse_28 : decode cX1_collapse 28 = .ok (.bipush (-2), 2) := by decide +kernel
theorem dX1_collapse_30 : decode cX1_collapse 30 = .ok (.ireturn, 1) := by decide +kernel
theorem dX1_collapse_31 : decode cX1_collapse 31 = .ok (.aload_n 0, 1) := by decide +kernel
theorem dX1_collapse_32 : decode cX1_collapse 32 = .ok (.getfield 74, 3) := by decide +kernel
theorem dX1_collapse_35 : decode cX1_collapse 35 = .ok (.ifCond .ne 17, 3) := by decide +kernel
theorem dX1_collapse_38 : decode cX1_collapse 38 = .ok (.iconst 4, 1) := by decide +kernel
theorem dX1_collapse_39 : decode cX1_collapse 39 = .ok (.iload_n 2, 1) := by decide +kernel
theorem dX1_collapse_40 : decode cX1_collapse 40 = .ok (.iload_n 3, 1) := by decide +kernel
theorem dX1_collapse_41 : decode cX1_collapse 41 = .ok (.iadd, 1) := by decide +kernel
theorem dX1_collapse_42 : decode cX1_collapse 42 = .ok (.imul, 1) := by decide +kernel
theorem dX1_collapse_43 : decode cX1_collapse 43 = .ok (.aload_n 0, 1) := by decide +kernel
theorem dX1_collapse_44 : decode cX1_collapse 44 = .ok (.getfield 13, 3) := by decide +kernel
theorem dX1_collapse_47 : decode cX1_collapse 47 = .ok (.iload_n 1, 1) := by decide +kernel
theorem dX1_collapse_48 : decode cX1_collapse 48 = .ok (.iaload, 1) := by decide +kernel
theorem dX1_collapse_49 : decode cX1_collapse 49 = .ok (.if_icmp .lt 6, 3) := by decide +kernel
theorem dX1_collapse_52 : decode cX1_collapse 52 = .ok (.bipush (-3), 2) := by decide +kernel
theorem dX1_collapse_54 : decode cX1_collapse 54 = .ok (.ireturn, 1) := by decide +kernel
theorem dX1_collapse_55 : decode cX1_collapse 55 = .ok (.iload_n 2, 1) := by decide +kernel
theorem dX1_collapse_56 : decode cX1_collapse 56 = .ok (.istore 4, 2) := by decide +kernel
theorem dX1_collapse_58 : decode cX1_collapse 58 = .ok (.iload 4, 2) := by decide +kernel
theorem dX1_collapse_60 : decode cX1_collapse 60 = .ok (.bipush 24, 2) := by decide +kernel
theorem dX1_collapse_62 : decode cX1_collapse 62 = .ok (.if_icmp .ge 49, 3) := by decide +kernel
theorem dX1_collapse_65 : decode cX1_collapse 65 = .ok (.aload_n 0, 1) := by decide +kernel
theorem dX1_collapse_66 : decode cX1_collapse 66 = .ok (.getfield 16, 3) := by decide +kernel
theorem dX1_collapse_69 : decode cX1_collapse 69 = .ok (.bipush 24, 2) := by decide +kernel
theorem dX1_collapse_71 : decode cX1_collapse 71 = .ok (.iload_n 1, 1) := by decide +kernel
theorem dX1_collapse_72 : decode cX1_collapse 72 = .ok (.imul, 1) := by decide +kernel
theorem dX1_collapse_73 : decode cX1_collapse 73 = .ok (.iload 4, 2) := by decide +kernel
theorem dX1_collapse_75 : decode cX1_collapse 75 = .ok (.iadd, 1) := by decide +kernel
theorem dX1_collapse_76 : decode cX1_collapse 76 = .ok (.iload 4, 2) := by decide +kernel
theorem dX1_collapse_78 : decode cX1_collapse 78 = .ok (.iload_n 3, 1) := by decide +kernel
theorem dX1_collapse_79 : decode cX1_collapse 79 = .ok (.iadd, 1) := by decide +kernel
theorem dX1_collapse_80 : decode cX1_collapse 80 = .ok (.bipush 24, 2) := by decide +kernel
theorem dX1_collapse_82 : decode cX1_collapse 82 = .ok (.if_icmp .ge 20, 3) := by decide +kernel
theorem dX1_collapse_85 : decode cX1_collapse 85 = .ok (.aload_n 0, 1) := by decide +kernel
theorem dX1_collapse_86 : decode cX1_collapse 86 = .ok (.getfield 16, 3) := by decide +kernel
theorem dX1_collapse_89 : decode cX1_collapse 89 = .ok (.bipush 24, 2) := by decide +kernel
theorem dX1_collapse_91 : decode cX1_collapse 91 = .ok (.iload_n 1, 1) := by decide +kernel
theorem dX1_collapse_92 : decode cX1_collapse 92 = .ok (.imul, 1) := by decide +kernel
theorem dX1_collapse_93 : decode cX1_collapse 93 = .ok (.iload 4, 2) := by decide +kernel
theorem dX1_collapse_95 : decode cX1_collapse 95 = .ok (.iadd, 1) := by decide +kernel
theorem dX1_collapse_96 : decode cX1_collapse 96 = .ok (.iload_n 3, 1) := by decide +kernel
theorem dX1_collapse_97 : decode cX1_collapse 97 = .ok (.iadd, 1) := by decide +kernel
theorem dX1_collapse_98 : decode cX1_collapse 98 = .ok (.iaload, 1) := by decide +kernel
theorem dX1_collapse_99 : decode cX1_collapse 99 = .ok (.goto 5, 3) := by decide +kernel
theorem dX1_collapse_102 : decode cX1_collapse 102 = .ok (.bipush (-9), 2) := by decide +kernel
theorem dX1_collapse_104 : decode cX1_collapse 104 = .ok (.iastore, 1) := by decide +kernel
theorem dX1_collapse_105 : decode cX1_collapse 105 = .ok (.iinc 4 1, 3) := by decide +kernel
theorem dX1_collapse_108 : decode cX1_collapse 108 = .ok (.goto (-50), 3) := by decide +kernel
theorem dX1_collapse_111 : decode cX1_collapse 111 = .ok (.aload_n 0, 1) := by decide +kernel
theorem dX1_collapse_112 : decode cX1_collapse 112 = .ok (.getfield 13, 3) := by decide +kernel
theorem dX1_collapse_115 : decode cX1_collapse 115 = .ok (.iload_n 1, 1) := by decide +kernel
theorem dX1_collapse_116 : decode cX1_collapse 116 = .ok (.dup2, 1) := by decide +kernel
theorem dX1_collapse_117 : decode cX1_collapse 117 = .ok (.iaload, 1) := by decide +kernel
theorem dX1_collapse_118 : decode cX1_collapse 118 = .ok (.iconst 4, 1) := by decide +kernel
theorem dX1_collapse_119 : decode cX1_collapse 119 = .ok (.iload_n 3, 1) := by decide +kernel
theorem dX1_collapse_120 : decode cX1_collapse 120 = .ok (.imul, 1) := by decide +kernel
theorem dX1_collapse_121 : decode cX1_collapse 121 = .ok (.isub, 1) := by decide +kernel
theorem dX1_collapse_122 : decode cX1_collapse 122 = .ok (.iastore, 1) := by decide +kernel
theorem dX1_collapse_123 : decode cX1_collapse 123 = .ok (.aload_n 0, 1) := by decide +kernel
theorem dX1_collapse_124 : decode cX1_collapse 124 = .ok (.getfield 13, 3) := by decide +kernel
theorem dX1_collapse_127 : decode cX1_collapse 127 = .ok (.iload_n 1, 1) := by decide +kernel
theorem dX1_collapse_128 : decode cX1_collapse 128 = .ok (.iaload, 1) := by decide +kernel
theorem dX1_collapse_129 : decode cX1_collapse 129 = .ok (.ireturn, 1) := by decide +kernel
theorem dX1_insert_0 : decode cX1_insert 0 = .ok (.iload_n 1, 1) := by decide +kernel
theorem dX1_insert_1 : decode cX1_insert 1 = .ok (.invokestatic 71, 3) := by decide +kernel
theorem dX1_insert_4 : decode cX1_insert 4 = .ok (.ifCond .ne 5, 3) := by decide +kernel
theorem dX1_insert_7 : decode cX1_insert 7 = .ok (.iconst (-1), 1) := by decide +kernel
theorem dX1_insert_8 : decode cX1_insert 8 = .ok (.ireturn, 1) := by decide +kernel
theorem dX1_insert_9 : decode cX1_insert 9 = .ok (.iload_n 2, 1) := by decide +kernel
theorem dX1_insert_10 : decode cX1_insert 10 = .ok (.invokestatic 98, 3) := by decide +kernel
theorem dX1_insert_13 : decode cX1_insert 13 = .ok (.ifCond .eq 13, 3) := by decide +kernel
theorem dX1_insert_16 : decode cX1_insert 16 = .ok (.iload_n 3, 1) := by decide +kernel
theorem dX1_insert_17 : decode cX1_insert 17 = .ok (.iconst 1, 1) := by decide +kernel
theorem dX1_insert_18 : decode cX1_insert 18 = .ok (.bipush 24, 2) := by decide +kernel
theorem dX1_insert_20 : decode cX1_insert 20 = .ok (.invokestatic 33, 3) := by decide +kernel
theorem dX1_insert_23 : decode cX1_insert 23 = .ok (.ifCond .ne 6, 3) := by decide +kernel
theorem dX1_insert_26 : decode cX1_insert 26 = .ok (.bipush (-2), 2) := by decide +kernel
theorem dX1_insert_28 : decode cX1_insert 28 = .ok (.ireturn, 1) := by decide +kernel
theorem dX1_insert_29 : decode cX1_insert 29 = .ok (.aload_n 0, 1) := by decide +kernel
theorem dX1_insert_30 : decode cX1_insert 30 = .ok (.getfield 74, 3) := by decide +kernel
theorem dX1_insert_33 : decode cX1_insert 33 = .ok (.ifCond .ne 15, 3) := by decide +kernel
theorem dX1_insert_36 : decode cX1_insert 36 = .ok (.iconst 4, 1) := by decide +kernel
theorem dX1_insert_37 : decode cX1_insert 37 = .ok (.iload_n 2, 1) := by decide +kernel
theorem dX1_insert_38 : decode cX1_insert 38 = .ok (.imul, 1) := by decide +kernel
theorem dX1_insert_39 : decode cX1_insert 39 = .ok (.aload_n 0, 1) := by decide +kernel
theorem dX1_insert_40 : decode cX1_insert 40 = .ok (.getfield 13, 3) := by decide +kernel
theorem dX1_insert_43 : decode cX1_insert 43 = .ok (.iload_n 1, 1) := by decide +kernel
theorem dX1_insert_44 : decode cX1_insert 44 = .ok (.iaload, 1) := by decide +kernel
theorem dX1_insert_45 : decode cX1_insert 45 = .ok (.if_icmp .lt 6, 3) := by decide +kernel
theorem dX1_insert_48 : decode cX1_insert 48 = .ok (.bipush (-3), 2) := by decide +kernel
theorem dX1_insert_50 : decode cX1_insert 50 = .ok (.ireturn, 1) := by decide +kernel
theorem dX1_insert_51 : decode cX1_insert 51 = .ok (.aload_n 0, 1) := by decide +kernel
theorem dX1_insert_52 : decode cX1_insert 52 = .ok (.getfield 13, 3) := by decide +kernel
theorem dX1_insert_55 : decode cX1_insert 55 = .ok (.iload_n 1, 1) := by decide +kernel
theorem dX1_insert_56 : decode cX1_insert 56 = .ok (.iaload, 1) := by decide +kernel
theorem dX1_insert_57 : decode cX1_insert 57 = .ok (.iconst 4, 1) := by decide +kernel
theorem dX1_insert_58 : decode cX1_insert 58 = .ok (.iload_n 3, 1) := by decide +kernel
theorem dX1_insert_59 : decode cX1_insert 59 = .ok (.imul, 1) := by decide +kernel
theorem dX1_insert_60 : decode cX1_insert 60 = .ok (.iadd, 1) := by decide +kernel
theorem dX1_insert_61 : decode cX1_insert 61 = .ok (.bipush 96, 2) := by decide +kernel
theorem dX1_insert_63 : decode cX1_insert 63 = .ok (.if_icmp .le 6, 3) := by decide +kernel
theorem dX1_insert_66 : decode cX1_insert 66 = .ok (.bipush (-4), 2) := by decide +kernel
theorem dX1_insert_68 : decode cX1_insert 68 = .ok (.ireturn, 1) := by decide +kernel
theorem dX1_insert_69 : decode cX1_insert 69 = .ok (.bipush 23, 2) := by decide +kernel
theorem dX1_insert_71 : decode cX1_insert 71 = .ok (.istore 4, 2) := by decide +kernel
theorem dX1_insert_73 : decode cX1_insert 73 = .ok (.iload 4, 2) := by decide +kernel
theorem dX1_insert_75 : decode cX1_insert 75 = .ok (.iload_n 2, 1) := by decide +kernel
theorem dX1_insert_76 : decode cX1_insert 76 = .ok (.if_icmp .lt 48, 3) := by decide +kernel
theorem dX1_insert_79 : decode cX1_insert 79 = .ok (.aload_n 0, 1) := by decide +kernel
theorem dX1_insert_80 : decode cX1_insert 80 = .ok (.getfield 16, 3) := by decide +kernel
theorem dX1_insert_83 : decode cX1_insert 83 = .ok (.bipush 24, 2) := by decide +kernel
theorem dX1_insert_85 : decode cX1_insert 85 = .ok (.iload_n 1, 1) := by decide +kernel
theorem dX1_insert_86 : decode cX1_insert 86 = .ok (.imul, 1) := by decide +kernel
theorem dX1_insert_87 : decode cX1_insert 87 = .ok (.iload 4, 2) := by decide +kernel
theorem dX1_insert_89 : decode cX1_insert 89 = .ok (.iadd, 1) := by decide +kernel
theorem dX1_insert_90 : decode cX1_insert 90 = .ok (.iload 4, 2) := by decide +kernel
theorem dX1_insert_92 : decode cX1_insert 92 = .ok (.iload_n 3, 1) := by decide +kernel
theorem dX1_insert_93 : decode cX1_insert 93 = .ok (.isub, 1) := by decide +kernel
theorem dX1_insert_94 : decode cX1_insert 94 = .ok (.iload_n 2, 1) := by decide +kernel
theorem dX1_insert_95 : decode cX1_insert 95 = .ok (.if_icmp .lt 20, 3) := by decide +kernel
theorem dX1_insert_98 : decode cX1_insert 98 = .ok (.aload_n 0, 1) := by decide +kernel
theorem dX1_insert_99 : decode cX1_insert 99 = .ok (.getfield 16, 3) := by decide +kernel
theorem dX1_insert_102 : decode cX1_insert 102 = .ok (.bipush 24, 2) := by decide +kernel
theorem dX1_insert_104 : decode cX1_insert 104 = .ok (.iload_n 1, 1) := by decide +kernel
theorem dX1_insert_105 : decode cX1_insert 105 = .ok (.imul, 1) := by decide +kernel
theorem dX1_insert_106 : decode cX1_insert 106 = .ok (.iload 4, 2) := by decide +kernel
theorem dX1_insert_108 : decode cX1_insert 108 = .ok (.iadd, 1) := by decide +kernel
theorem dX1_insert_109 : decode cX1_insert 109 = .ok (.iload_n 3, 1) := by decide +kernel
theorem dX1_insert_110 : decode cX1_insert 110 = .ok (.isub, 1) := by decide +kernel
theorem dX1_insert_111 : decode cX1_insert 111 = .ok (.iaload, 1) := by decide +kernel
theorem dX1_insert_112 : decode cX1_insert 112 = .ok (.goto 5, 3) := by decide +kernel
theorem dX1_insert_115 : decode cX1_insert 115 = .ok (.bipush (-9), 2) := by decide +kernel
theorem dX1_insert_117 : decode cX1_insert 117 = .ok (.iastore, 1) := by decide +kernel
theorem dX1_insert_118 : decode cX1_insert 118 = .ok (.iinc 4 (-1), 3) := by decide +kernel
theorem dX1_insert_121 : decode cX1_insert 121 = .ok (.goto (-48), 3) := by decide +kernel
theorem dX1_insert_124 : decode cX1_insert 124 = .ok (.aload_n 0, 1) := by decide +kernel
theorem dX1_insert_125 : decode cX1_insert 125 = .ok (.getfield 13, 3) := by decide +kernel
theorem dX1_insert_128 : decode cX1_insert 128 = .ok (.iload_n 1, 1) := by decide +kernel
theorem dX1_insert_129 : decode cX1_insert 129 = .ok (.dup2, 1) := by decide +kernel
theorem dX1_insert_130 : decode cX1_insert 130 = .ok (.iaload, 1) := by decide +kernel
theorem dX1_insert_131 : decode cX1_insert 131 = .ok (.iconst 4, 1) := by decide +kernel
theorem dX1_insert_132 : decode cX1_insert 132 = .ok (.iload_n 3, 1) := by decide +kernel
theorem dX1_insert_133 : decode cX1_insert 133 = .ok (.imul, 1) := by decide +kernel
theorem dX1_insert_134 : decode cX1_insert 134 = .ok (.iadd, 1) := by decide +kernel
theorem dX1_insert_135 : decode cX1_insert 135 = .ok (.iastore, 1) := by decide +kernel
theorem dX1_insert_136 : decode cX1_insert 136 = .ok (.aload_n 0, 1) := by decide +kernel
theorem dX1_insert_137 : decode cX1_insert 137 = .ok (.getfield 13, 3) := by decide +kernel
theorem dX1_insert_140 : decode cX1_insert 140 = .ok (.iload_n 1, 1) := by decide +kernel
theorem dX1_insert_141 : decode cX1_insert 141 = .ok (.iaload, 1) := by decide +kernel
theorem dX1_insert_142 : decode cX1_insert 142 = .ok (.ireturn, 1) := by decide +kernel
theorem dX1_areRanges_0 : decode cX1_areRanges 0 = .ok (.iload_n 0, 1) := by decide +kernel
theorem dX1_areRanges_1 : decode cX1_areRanges 1 = .ok (.invokestatic 98, 3) := by decide +kernel
theorem dX1_areRanges_4 : decode cX1_areRanges 4 = .ok (.ifCond .eq 35, 3) := by decide +kernel
theorem dX1_areRanges_7 : decode cX1_areRanges 7 = .ok (.iload_n 1, 1) := by decide +kernel
theorem dX1_areRanges_8 : decode cX1_areRanges 8 = .ok (.invokestatic 98, 3) := by decide +kernel
theorem dX1_areRanges_11 : decode cX1_areRanges 11 = .ok (.ifCond .eq 28, 3) := by decide +kernel
theorem dX1_areRanges_14 : decode cX1_areRanges 14 = .ok (.iload_n 2, 1) := by decide +kernel
theorem dX1_areRanges_15 : decode cX1_areRanges 15 = .ok (.iconst 1, 1) := by decide +kernel
theorem dX1_areRanges_16 : decode cX1_areRanges 16 = .ok (.bipush 24, 2) := by decide +kernel
theorem dX1_areRanges_18 : decode cX1_areRanges 18 = .ok (.iload_n 0, 1) := by decide +kernel
theorem dX1_areRanges_19 : decode cX1_areRanges 19 = .ok (.iload_n 1, 1) := by decide +kernel
theorem dX1_areRanges_20 : decode cX1_areRanges 20 = .ok (.if_icmp .le 7, 3) := by decide +kernel
theorem dX1_areRanges_23 : decode cX1_areRanges 23 = .ok (.iload_n 0, 1) := by decide +kernel
theorem dX1_areRanges_24 : decode cX1_areRanges 24 = .ok (.goto 4, 3) := by decide +kernel
theorem dX1_areRanges_27 : decode cX1_areRanges 27 = .ok (.iload_n 1, 1) := by decide +kernel
theorem dX1_areRanges_28 : decode cX1_areRanges 28 = .ok (.isub, 1) := by decide +kernel
theorem dX1_areRanges_29 : decode cX1_areRanges 29 = .ok (.invokestatic 33, 3) := by decide +kernel
theorem dX1_areRanges_32 : decode cX1_areRanges 32 = .ok (.ifCond .eq 7, 3) := by decide +kernel
theorem dX1_areRanges_35 : decode cX1_areRanges 35 = .ok (.iconst 1, 1) := by decide +kernel
theorem dX1_areRanges_36 : decode cX1_areRanges 36 = .ok (.goto 4, 3) := by decide +kernel
theorem dX1_areRanges_39 : decode cX1_areRanges 39 = .ok (.iconst 0, 1) := by decide +kernel
theorem dX1_areRanges_40 : decode cX1_areRanges 40 = .ok (.ireturn, 1) := by decide +kernel
theorem dX1_doMeet_0 : decode cX1_doMeet 0 = .ok (.iload_n 0, 1) := by decide +kernel
theorem dX1_doMeet_1 : decode cX1_doMeet 1 = .ok (.iload_n 2, 1) := by decide +kernel
theorem dX1_doMeet_2 : decode cX1_doMeet 2 = .ok (.if_icmp .ne 23, 3) := by decide +kernel
theorem dX1_doMeet_5 : decode cX1_doMeet 5 = .ok (.iload_n 1, 1) := by decide +kernel
theorem dX1_doMeet_6 : decode cX1_doMeet 6 = .ok (.iload_n 3, 1) := by decide +kernel
theorem dX1_doMeet_7 : decode cX1_doMeet 7 = .ok (.iload 4, 2) := by decide +kernel
theorem dX1_doMeet_9 : decode cX1_doMeet 9 = .ok (.iadd, 1) := by decide +kernel
theorem dX1_doMeet_10 : decode cX1_doMeet 10 = .ok (.if_icmp .ge 15, 3) := by decide +kernel
theorem dX1_doMeet_13 : decode cX1_doMeet 13 = .ok (.iload_n 3, 1) := by decide +kernel
theorem dX1_doMeet_14 : decode cX1_doMeet 14 = .ok (.iload_n 1, 1) := by decide +kernel
theorem dX1_doMeet_15 : decode cX1_doMeet 15 = .ok (.iload 4, 2) := by decide +kernel
theorem dX1_doMeet_17 : decode cX1_doMeet 17 = .ok (.iadd, 1) := by decide +kernel
theorem dX1_doMeet_18 : decode cX1_doMeet 18 = .ok (.if_icmp .ge 7, 3) := by decide +kernel
theorem dX1_doMeet_21 : decode cX1_doMeet 21 = .ok (.iconst 1, 1) := by decide +kernel
theorem dX1_doMeet_22 : decode cX1_doMeet 22 = .ok (.goto 4, 3) := by decide +kernel
theorem dX1_doMeet_25 : decode cX1_doMeet 25 = .ok (.iconst 0, 1) := by decide +kernel
theorem dX1_doMeet_26 : decode cX1_doMeet 26 = .ok (.ireturn, 1) := by decide +kernel
theorem dX1_share_0 : decode cX1_share 0 = .ok (.iload_n 1, 1) := by decide +kernel
theorem dX1_share_1 : decode cX1_share 1 = .ok (.invokestatic 71, 3) := by decide +kernel
theorem dX1_share_4 : decode cX1_share 4 = .ok (.ifCond .eq 10, 3) := by decide +kernel
theorem dX1_share_7 : decode cX1_share 7 = .ok (.iload_n 3, 1) := by decide +kernel
theorem dX1_share_8 : decode cX1_share 8 = .ok (.invokestatic 71, 3) := by decide +kernel
theorem dX1_share_11 : decode cX1_share 11 = .ok (.ifCond .ne 5, 3) := by decide +kernel
theorem dX1_share_14 : decode cX1_share 14 = .ok (.iconst (-1), 1) := by decide +kernel
theorem dX1_share_15 : decode cX1_share 15 = .ok (.ireturn, 1) := by decide +kernel
theorem dX1_share_16 : decode cX1_share 16 = .ok (.iload_n 2, 1) := by decide +kernel
theorem dX1_share_17 : decode cX1_share 17 = .ok (.iload 4, 2) := by decide +kernel
theorem dX1_share_19 : decode cX1_share 19 = .ok (.iload 5, 2) := by decide +kernel
theorem dX1_share_21 : decode cX1_share 21 = .ok (.invokestatic 101, 3) := by decide +kernel
theorem dX1_share_24 : decode cX1_share 24 = .ok (.ifCond .ne 6, 3) := by decide +kernel
theorem dX1_share_27 : decode cX1_share 27 = .ok (.bipush (-2), 2) := by decide +kernel
theorem dX1_share_29 : decode cX1_share 29 = .ok (.ireturn, 1) := by decide +kernel
theorem dX1_share_30 : decode cX1_share 30 = .ok (.aload_n 0, 1) := by decide +kernel
theorem dX1_share_31 : decode cX1_share 31 = .ok (.getfield 74, 3) := by decide +kernel
theorem dX1_share_34 : decode cX1_share 34 = .ok (.ifCond .ne 31, 3) := by decide +kernel
theorem dX1_share_37 : decode cX1_share 37 = .ok (.iconst 4, 1) := by decide +kernel
theorem dX1_share_38 : decode cX1_share 38 = .ok (.iload_n 2, 1) := by decide +kernel
theorem dX1_share_39 : decode cX1_share 39 = .ok (.iload 5, 2) := by decide +kernel
theorem dX1_share_41 : decode cX1_share 41 = .ok (.iadd, 1) := by decide +kernel
theorem dX1_share_42 : decode cX1_share 42 = .ok (.imul, 1) := by decide +kernel
theorem dX1_share_43 : decode cX1_share 43 = .ok (.aload_n 0, 1) := by decide +kernel
theorem dX1_share_44 : decode cX1_share 44 = .ok (.getfield 13, 3) := by decide +kernel
theorem dX1_share_47 : decode cX1_share 47 = .ok (.iload_n 1, 1) := by decide +kernel
theorem dX1_share_48 : decode cX1_share 48 = .ok (.iaload, 1) := by decide +kernel
theorem dX1_share_49 : decode cX1_share 49 = .ok (.if_icmp .gt 16, 3) := by decide +kernel
theorem dX1_share_52 : decode cX1_share 52 = .ok (.iload_n 1, 1) := by decide +kernel
theorem dX1_share_53 : decode cX1_share 53 = .ok (.iload_n 2, 1) := by decide +kernel
theorem dX1_share_54 : decode cX1_share 54 = .ok (.iload_n 3, 1) := by decide +kernel
theorem dX1_share_55 : decode cX1_share 55 = .ok (.iload 4, 2) := by decide +kernel
theorem dX1_share_57 : decode cX1_share 57 = .ok (.iload 5, 2) := by decide +kernel
theorem dX1_share_59 : decode cX1_share 59 = .ok (.invokestatic 104, 3) := by decide +kernel
theorem dX1_share_62 : decode cX1_share 62 = .ok (.ifCond .eq 6, 3) := by decide +kernel
theorem dX1_share_65 : decode cX1_share 65 = .ok (.bipush (-3), 2) := by decide +kernel
theorem dX1_share_67 : decode cX1_share 67 = .ok (.ireturn, 1) := by decide +kernel
theorem dX1_share_68 : decode cX1_share 68 = .ok (.iconst 0, 1) := by decide +kernel
theorem dX1_share_69 : decode cX1_share 69 = .ok (.istore 6, 2) := by decide +kernel
theorem dX1_share_71 : decode cX1_share 71 = .ok (.iload 6, 2) := by decide +kernel
theorem dX1_share_73 : decode cX1_share 73 = .ok (.iload 5, 2) := by decide +kernel
theorem dX1_share_75 : decode cX1_share 75 = .ok (.if_icmp .ge 38, 3) := by decide +kernel
theorem dX1_share_78 : decode cX1_share 78 = .ok (.aload_n 0, 1) := by decide +kernel
theorem dX1_share_79 : decode cX1_share 79 = .ok (.getfield 16, 3) := by decide +kernel
theorem dX1_share_82 : decode cX1_share 82 = .ok (.bipush 24, 2) := by decide +kernel
theorem dX1_share_84 : decode cX1_share 84 = .ok (.iload_n 3, 1) := by decide +kernel
theorem dX1_share_85 : decode cX1_share 85 = .ok (.imul, 1) := by decide +kernel
theorem dX1_share_86 : decode cX1_share 86 = .ok (.iload 4, 2) := by decide +kernel
theorem dX1_share_88 : decode cX1_share 88 = .ok (.iadd, 1) := by decide +kernel
theorem dX1_share_89 : decode cX1_share 89 = .ok (.iload 6, 2) := by decide +kernel
theorem dX1_share_91 : decode cX1_share 91 = .ok (.iadd, 1) := by decide +kernel
theorem dX1_share_92 : decode cX1_share 92 = .ok (.aload_n 0, 1) := by decide +kernel
theorem dX1_share_93 : decode cX1_share 93 = .ok (.getfield 16, 3) := by decide +kernel
theorem dX1_share_96 : decode cX1_share 96 = .ok (.bipush 24, 2) := by decide +kernel
theorem dX1_share_98 : decode cX1_share 98 = .ok (.iload_n 1, 1) := by decide +kernel
theorem dX1_share_99 : decode cX1_share 99 = .ok (.imul, 1) := by decide +kernel
theorem dX1_share_100 : decode cX1_share 100 = .ok (.iload_n 2, 1) := by decide +kernel
theorem dX1_share_101 : decode cX1_share 101 = .ok (.iadd, 1) := by decide +kernel
theorem dX1_share_102 : decode cX1_share 102 = .ok (.iload 6, 2) := by decide +kernel
theorem dX1_share_104 : decode cX1_share 104 = .ok (.iadd, 1) := by decide +kernel
theorem dX1_share_105 : decode cX1_share 105 = .ok (.iaload, 1) := by decide +kernel
theorem dX1_share_106 : decode cX1_share 106 = .ok (.iastore, 1) := by decide +kernel
theorem dX1_share_107 : decode cX1_share 107 = .ok (.iinc 6 1, 3) := by decide +kernel
theorem dX1_share_110 : decode cX1_share 110 = .ok (.goto (-39), 3) := by decide +kernel
theorem dX1_share_113 : decode cX1_share 113 = .ok (.aload_n 0, 1) := by decide +kernel
theorem dX1_share_114 : decode cX1_share 114 = .ok (.getfield 13, 3) := by decide +kernel
theorem dX1_share_117 : decode cX1_share 117 = .ok (.iload_n 3, 1) := by decide +kernel
theorem dX1_share_118 : decode cX1_share 118 = .ok (.iconst 4, 1) := by decide +kernel
theorem dX1_share_119 : decode cX1_share 119 = .ok (.iload 4, 2) := by decide +kernel
theorem dX1_share_121 : decode cX1_share 121 = .ok (.iload 5, 2) := by decide +kernel
theorem dX1_share_123 : decode cX1_share 123 = .ok (.iadd, 1) := by decide +kernel
theorem dX1_share_124 : decode cX1_share 124 = .ok (.imul, 1) := by decide +kernel
theorem dX1_share_125 : decode cX1_share 125 = .ok (.aload_n 0, 1) := by decide +kernel
theorem dX1_share_126 : decode cX1_share 126 = .ok (.getfield 13, 3) := by decide +kernel
theorem dX1_share_129 : decode cX1_share 129 = .ok (.iload_n 3, 1) := by decide +kernel
theorem dX1_share_130 : decode cX1_share 130 = .ok (.iaload, 1) := by decide +kernel
theorem dX1_share_131 : decode cX1_share 131 = .ok (.if_icmp .le 13, 3) := by decide +kernel
theorem dX1_share_134 : decode cX1_share 134 = .ok (.iconst 4, 1) := by decide +kernel
theorem dX1_share_135 : decode cX1_share 135 = .ok (.iload 4, 2) := by decide +kernel
theorem dX1_share_137 : decode cX1_share 137 = .ok (.iload 5, 2) := by decide +kernel
theorem dX1_share_139 : decode cX1_share 139 = .ok (.iadd, 1) := by decide +kernel
theorem dX1_share_140 : decode cX1_share 140 = .ok (.imul, 1) := by decide +kernel
theorem dX1_share_141 : decode cX1_share 141 = .ok (.goto 9, 3) := by decide +kernel
theorem dX1_share_144 : decode cX1_share 144 = .ok (.aload_n 0, 1) := by decide +kernel
theorem dX1_share_145 : decode cX1_share 145 = .ok (.getfield 13, 3) := by decide +kernel
theorem dX1_share_148 : decode cX1_share 148 = .ok (.iload_n 3, 1) := by decide +kernel
theorem dX1_share_149 : decode cX1_share 149 = .ok (.iaload, 1) := by decide +kernel
theorem dX1_share_150 : decode cX1_share 150 = .ok (.iastore, 1) := by decide +kernel
theorem dX1_share_151 : decode cX1_share 151 = .ok (.aload_n 0, 1) := by decide +kernel
theorem dX1_share_152 : decode cX1_share 152 = .ok (.getfield 13, 3) := by decide +kernel
theorem dX1_share_155 : decode cX1_share 155 = .ok (.iload_n 3, 1) := by decide +kernel
theorem dX1_share_156 : decode cX1_share 156 = .ok (.iaload, 1) := by decide +kernel
theorem dX1_share_157 : decode cX1_share 157 = .ok (.ireturn, 1) := by decide +kernel
theorem dX1_unshare_0 : decode cX1_unshare 0 = .ok (.iload_n 1, 1) := by decide +kernel
theorem dX1_unshare_1 : decode cX1_unshare 1 = .ok (.invokestatic 71, 3) := by decide +kernel
theorem dX1_unshare_4 : decode cX1_unshare 4 = .ok (.ifCond .ne 5, 3) := by decide +kernel
theorem dX1_unshare_7 : decode cX1_unshare 7 = .ok (.iconst (-1), 1) := by decide +kernel
theorem dX1_unshare_8 : decode cX1_unshare 8 = .ok (.ireturn, 1) := by decide +kernel
theorem dX1_unshare_9 : decode cX1_unshare 9 = .ok (.iload_n 2, 1) := by decide +kernel
theorem dX1_unshare_10 : decode cX1_unshare 10 = .ok (.invokestatic 98, 3) := by decide +kernel
theorem dX1_unshare_13 : decode cX1_unshare 13 = .ok (.ifCond .eq 15, 3) := by decide +kernel
theorem dX1_unshare_16 : decode cX1_unshare 16 = .ok (.iload_n 3, 1) := by decide +kernel
theorem dX1_unshare_17 : decode cX1_unshare 17 = .ok (.iconst 1, 1) := by decide +kernel
theorem dX1_unshare_18 : decode cX1_unshare 18 = .ok (.bipush 24, 2) := by decide +kernel
theorem dX1_unshare_20 : decode cX1_unshare 20 = .ok (.iload_n 2, 1) := by decide +kernel
theorem dX1_unshare_21 : decode cX1_unshare 21 = .ok (.isub, 1) := by decide +kernel
theorem dX1_unshare_22 : decode cX1_unshare 22 = .ok (.invokestatic 33, 3) := by decide +kernel
theorem dX1_unshare_25 : decode cX1_unshare 25 = .ok (.ifCond .ne 6, 3) := by decide +kernel
theorem dX1_unshare_28 : decode cX1_unshare 28 = .ok (.bipush (-2), 2) := by decide +kernel
theorem dX1_unshare_30 : decode cX1_unshare 30 = .ok (.ireturn, 1) := by decide +kernel
theorem dX1_unshare_31 : decode cX1_unshare 31 = .ok (.aload_n 0, 1) := by decide +kernel
theorem dX1_unshare_32 : decode cX1_unshare 32 = .ok (.getfield 74, 3) := by decide +kernel
theorem dX1_unshare_35 : decode cX1_unshare 35 = .ok (.ifCond .eq 6, 3) := by decide +kernel
theorem dX1_unshare_38 : decode cX1_unshare 38 = .ok (.bipush (-3), 2) := by decide +kernel
theorem dX1_unshare_40 : decode cX1_unshare 40 = .ok (.ireturn, 1) := by decide +kernel
theorem dX1_unshare_41 : decode cX1_unshare 41 = .ok (.aload_n 0, 1) := by decide +kernel
theorem dX1_unshare_42 : decode cX1_unshare 42 = .ok (.iconst 0, 1) := by decide +kernel
theorem dX1_unshare_43 : decode cX1_unshare 43 = .ok (.putfield 61, 3) := by decide +kernel
theorem dX1_unshare_46 : decode cX1_unshare 46 = .ok (.iload_n 2, 1) := by decide +kernel
theorem dX1_unshare_47 : decode cX1_unshare 47 = .ok (.istore 4, 2) := by decide +kernel
theorem dX1_unshare_49 : decode cX1_unshare 49 = .ok (.iload 4, 2) := by decide +kernel
theorem dX1_unshare_51 : decode cX1_unshare 51 = .ok (.iload_n 2, 1) := by decide +kernel
theorem dX1_unshare_52 : decode cX1_unshare 52 = .ok (.iload_n 3, 1) := by decide +kernel
theorem dX1_unshare_53 : decode cX1_unshare 53 = .ok (.iadd, 1) := by decide +kernel
theorem dX1_unshare_54 : decode cX1_unshare 54 = .ok (.if_icmp .ge 17, 3) := by decide +kernel
theorem dX1_unshare_57 : decode cX1_unshare 57 = .ok (.aload_n 0, 1) := by decide +kernel
theorem dX1_unshare_58 : decode cX1_unshare 58 = .ok (.iload_n 1, 1) := by decide +kernel
theorem dX1_unshare_59 : decode cX1_unshare 59 = .ok (.iload 4, 2) := by decide +kernel
theorem dX1_unshare_61 : decode cX1_unshare 61 = .ok (.iconst 0, 1) := by decide +kernel
theorem dX1_unshare_62 : decode cX1_unshare 62 = .ok (.invokevirtual 78, 3) := by decide +kernel
theorem dX1_unshare_65 : decode cX1_unshare 65 = .ok (.iinc 4 1, 3) := by decide +kernel
theorem dX1_unshare_68 : decode cX1_unshare 68 = .ok (.goto (-19), 3) := by decide +kernel
theorem dX1_unshare_71 : decode cX1_unshare 71 = .ok (.aload_n 0, 1) := by decide +kernel
theorem dX1_unshare_72 : decode cX1_unshare 72 = .ok (.iload_n 1, 1) := by decide +kernel
theorem dX1_unshare_73 : decode cX1_unshare 73 = .ok (.invokevirtual 81, 3) := by decide +kernel
theorem dX1_unshare_76 : decode cX1_unshare 76 = .ok (.ifCond .eq 10, 3) := by decide +kernel
theorem dX1_unshare_79 : decode cX1_unshare 79 = .ok (.aload_n 0, 1) := by decide +kernel
theorem dX1_unshare_80 : decode cX1_unshare 80 = .ok (.getfield 61, 3) := by decide +kernel
theorem dX1_unshare_83 : decode cX1_unshare 83 = .ok (.goto 5, 3) := by decide +kernel
theorem dX1_unshare_86 : decode cX1_unshare 86 = .ok (.bipush (-6), 2) := by decide +kernel
theorem dX1_unshare_88 : decode cX1_unshare 88 = .ok (.ireturn, 1) := by decide +kernel
theorem dX1_failure_0 : decode cX1_failure 0 = .ok (.iload_n 1, 1) := by decide +kernel
theorem dX1_failure_1 : decode cX1_failure 1 = .ok (.bipush (-9), 2) := by decide +kernel
theorem dX1_failure_3 : decode cX1_failure 3 = .ok (.if_icmp .eq 13, 3) := by decide +kernel
theorem dX1_failure_6 : decode cX1_failure 6 = .ok (.iload_n 1, 1) := by decide +kernel
theorem dX1_failure_7 : decode cX1_failure 7 = .ok (.invokestatic 98, 3) := by decide +kernel
theorem dX1_failure_10 : decode cX1_failure 10 = .ok (.ifCond .ne 6, 3) := by decide +kernel
theorem dX1_failure_13 : decode cX1_failure 13 = .ok (.bipush (-2), 2) := by decide +kernel
theorem dX1_failure_15 : decode cX1_failure 15 = .ok (.ireturn, 1) := by decide +kernel
theorem dX1_failure_16 : decode cX1_failure 16 = .ok (.aload_n 0, 1) := by decide +kernel
theorem dX1_failure_17 : decode cX1_failure 17 = .ok (.getfield 74, 3) := by decide +kernel
theorem dX1_failure_20 : decode cX1_failure 20 = .ok (.ifCond .eq 6, 3) := by decide +kernel
theorem dX1_failure_23 : decode cX1_failure 23 = .ok (.bipush (-3), 2) := by decide +kernel
theorem dX1_failure_25 : decode cX1_failure 25 = .ok (.ireturn, 1) := by decide +kernel
theorem dX1_failure_26 : decode cX1_failure 26 = .ok (.aload_n 0, 1) := by decide +kernel
theorem dX1_failure_27 : decode cX1_failure 27 = .ok (.getfield 29, 3) := by decide +kernel
theorem dX1_failure_30 : decode cX1_failure 30 = .ok (.istore_n 2, 1) := by decide +kernel
theorem dX1_failure_31 : decode cX1_failure 31 = .ok (.aload_n 0, 1) := by decide +kernel
theorem dX1_failure_32 : decode cX1_failure 32 = .ok (.iload_n 1, 1) := by decide +kernel
theorem dX1_failure_33 : decode cX1_failure 33 = .ok (.putfield 29, 3) := by decide +kernel
theorem dX1_failure_36 : decode cX1_failure 36 = .ok (.iload_n 2, 1) := by decide +kernel
theorem dX1_failure_37 : decode cX1_failure 37 = .ok (.ireturn, 1) := by decide +kernel
theorem dX1_steps_0 : decode cX1_steps 0 = .ok (.bipush 24, 2) := by decide +kernel
theorem dX1_steps_2 : decode cX1_steps 2 = .ok (.aload_n 0, 1) := by decide +kernel
theorem dX1_steps_3 : decode cX1_steps 3 = .ok (.getfield 108, 3) := by decide +kernel
theorem dX1_steps_6 : decode cX1_steps 6 = .ok (.imul, 1) := by decide +kernel
theorem dX1_steps_7 : decode cX1_steps 7 = .ok (.aload_n 0, 1) := by decide +kernel
theorem dX1_steps_8 : decode cX1_steps 8 = .ok (.getfield 111, 3) := by decide +kernel
theorem dX1_steps_11 : decode cX1_steps 11 = .ok (.iadd, 1) := by decide +kernel
theorem dX1_steps_12 : decode cX1_steps 12 = .ok (.iload_n 1, 1) := by decide +kernel
theorem dX1_steps_13 : decode cX1_steps 13 = .ok (.iadd, 1) := by decide +kernel
theorem dX1_steps_14 : decode cX1_steps 14 = .ok (.istore_n 2, 1) := by decide +kernel
theorem dX1_steps_15 : decode cX1_steps 15 = .ok (.bipush 24, 2) := by decide +kernel
theorem dX1_steps_17 : decode cX1_steps 17 = .ok (.aload_n 0, 1) := by decide +kernel
theorem dX1_steps_18 : decode cX1_steps 18 = .ok (.getfield 114, 3) := by decide +kernel
theorem dX1_steps_21 : decode cX1_steps 21 = .ok (.imul, 1) := by decide +kernel
theorem dX1_steps_22 : decode cX1_steps 22 = .ok (.aload_n 0, 1) := by decide +kernel
theorem dX1_steps_23 : decode cX1_steps 23 = .ok (.getfield 117, 3) := by decide +kernel
theorem dX1_steps_26 : decode cX1_steps 26 = .ok (.iadd, 1) := by decide +kernel
theorem dX1_steps_27 : decode cX1_steps 27 = .ok (.iload_n 1, 1) := by decide +kernel
theorem dX1_steps_28 : decode cX1_steps 28 = .ok (.iadd, 1) := by decide +kernel
theorem dX1_steps_29 : decode cX1_steps 29 = .ok (.istore_n 3, 1) := by decide +kernel
theorem dX1_steps_30 : decode cX1_steps 30 = .ok (.aload_n 0, 1) := by decide +kernel
theorem dX1_steps_31 : decode cX1_steps 31 = .ok (.getfield 16, 3) := by decide +kernel
theorem dX1_steps_34 : decode cX1_steps 34 = .ok (.iload_n 2, 1) := by decide +kernel
theorem dX1_steps_35 : decode cX1_steps 35 = .ok (.iaload, 1) := by decide +kernel
theorem dX1_steps_36 : decode cX1_steps 36 = .ok (.istore 4, 2) := by decide +kernel
theorem dX1_steps_38 : decode cX1_steps 38 = .ok (.aload_n 0, 1) := by decide +kernel
theorem dX1_steps_39 : decode cX1_steps 39 = .ok (.getfield 16, 3) := by decide +kernel
theorem dX1_steps_42 : decode cX1_steps 42 = .ok (.iload_n 2, 1) := by decide +kernel
theorem dX1_steps_43 : decode cX1_steps 43 = .ok (.aload_n 0, 1) := by decide +kernel
theorem dX1_steps_44 : decode cX1_steps 44 = .ok (.getfield 16, 3) := by decide +kernel
theorem dX1_steps_47 : decode cX1_steps 47 = .ok (.iload_n 3, 1) := by decide +kernel
theorem dX1_steps_48 : decode cX1_steps 48 = .ok (.iaload, 1) := by decide +kernel
theorem dX1_steps_49 : decode cX1_steps 49 = .ok (.iastore, 1) := by decide +kernel
theorem dX1_steps_50 : decode cX1_steps 50 = .ok (.aload_n 0, 1) := by decide +kernel
theorem dX1_steps_51 : decode cX1_steps 51 = .ok (.getfield 16, 3) := by decide +kernel
theorem dX1_steps_54 : decode cX1_steps 54 = .ok (.iload_n 3, 1) := by decide +kernel
theorem dX1_steps_55 : decode cX1_steps 55 = .ok (.iload 4, 2) := by decide +kernel
theorem dX1_steps_57 : decode cX1_steps 57 = .ok (.iastore, 1) := by decide +kernel
theorem dX1_steps_58 : decode cX1_steps 58 = .ok (.return_, 1) := by decide +kernel
theorem dX1_exchange_0 : decode cX1_exchange 0 = .ok (.iload_n 1, 1) := by decide +kernel
theorem dX1_exchange_1 : decode cX1_exchange 1 = .ok (.invokestatic 71, 3) := by decide +kernel
theorem dX1_exchange_4 : decode cX1_exchange 4 = .ok (.ifCond .eq 10, 3) := by decide +kernel
theorem dX1_exchange_7 : decode cX1_exchange 7 = .ok (.iload_n 3, 1) := by decide +kernel
theorem dX1_exchange_8 : decode cX1_exchange 8 = .ok (.invokestatic 71, 3) := by decide +kernel
theorem dX1_exchange_11 : decode cX1_exchange 11 = .ok (.ifCond .ne 5, 3) := by decide +kernel
theorem dX1_exchange_14 : decode cX1_exchange 14 = .ok (.iconst (-1), 1) := by decide +kernel
theorem dX1_exchange_15 : decode cX1_exchange 15 = .ok (.ireturn, 1) := by decide +kernel
theorem dX1_exchange_16 : decode cX1_exchange 16 = .ok (.iload_n 2, 1) := by decide +kernel
theorem dX1_exchange_17 : decode cX1_exchange 17 = .ok (.iload 4, 2) := by decide +kernel
theorem dX1_exchange_19 : decode cX1_exchange 19 = .ok (.iload 5, 2) := by decide +kernel
theorem dX1_exchange_21 : decode cX1_exchange 21 = .ok (.invokestatic 101, 3) := by decide +kernel
theorem dX1_exchange_24 : decode cX1_exchange 24 = .ok (.ifCond .ne 6, 3) := by decide +kernel
theorem dX1_exchange_27 : decode cX1_exchange 27 = .ok (.bipush (-2), 2) := by decide +kernel
theorem dX1_exchange_29 : decode cX1_exchange 29 = .ok (.ireturn, 1) := by decide +kernel
theorem dX1_exchange_30 : decode cX1_exchange 30 = .ok (.aload_n 0, 1) := by decide +kernel
theorem dX1_exchange_31 : decode cX1_exchange 31 = .ok (.getfield 74, 3) := by decide +kernel
theorem dX1_exchange_34 : decode cX1_exchange 34 = .ok (.ifCond .ne 47, 3) := by decide +kernel
theorem dX1_exchange_37 : decode cX1_exchange 37 = .ok (.iconst 4, 1) := by decide +kernel
theorem dX1_exchange_38 : decode cX1_exchange 38 = .ok (.iload_n 2, 1) := by decide +kernel
theorem dX1_exchange_39 : decode cX1_exchange 39 = .ok (.iload 5, 2) := by decide +kernel
theorem dX1_exchange_41 : decode cX1_exchange 41 = .ok (.iadd, 1) := by decide +kernel
theorem dX1_exchange_42 : decode cX1_exchange 42 = .ok (.imul, 1) := by decide +kernel
theorem dX1_exchange_43 : decode cX1_exchange 43 = .ok (.aload_n 0, 1) := by decide +kernel
theorem dX1_exchange_44 : decode cX1_exchange 44 = .ok (.getfield 13, 3) := by decide +kernel
theorem dX1_exchange_47 : decode cX1_exchange 47 = .ok (.iload_n 1, 1) := by decide +kernel
theorem dX1_exchange_48 : decode cX1_exchange 48 = .ok (.iaload, 1) := by decide +kernel
theorem dX1_exchange_49 : decode cX1_exchange 49 = .ok (.if_icmp .gt 32, 3) := by decide +kernel
theorem dX1_exchange_52 : decode cX1_exchange 52 = .ok (.iconst 4, 1) := by decide +kernel
theorem dX1_exchange_53 : decode cX1_exchange 53 = .ok (.iload 4, 2) := by decide +kernel
theorem dX1_exchange_55 : decode cX1_exchange 55 = .ok (.iload 5, 2) := by decide +kernel
theorem dX1_exchange_57 : decode cX1_exchange 57 = .ok (.iadd, 1) := by decide +kernel
theorem dX1_exchange_58 : decode cX1_exchange 58 = .ok (.imul, 1) := by decide +kernel
theorem dX1_exchange_59 : decode cX1_exchange 59 = .ok (.aload_n 0, 1) := by decide +kernel
theorem dX1_exchange_60 : decode cX1_exchange 60 = .ok (.getfield 13, 3) := by decide +kernel
theorem dX1_exchange_63 : decode cX1_exchange 63 = .ok (.iload_n 3, 1) := by decide +kernel
theorem dX1_exchange_64 : decode cX1_exchange 64 = .ok (.iaload, 1) := by decide +kernel
theorem dX1_exchange_65 : decode cX1_exchange 65 = .ok (.if_icmp .gt 16, 3) := by decide +kernel
theorem dX1_exchange_68 : decode cX1_exchange 68 = .ok (.iload_n 1, 1) := by decide +kernel
theorem dX1_exchange_69 : decode cX1_exchange 69 = .ok (.iload_n 2, 1) := by decide +kernel
theorem dX1_exchange_70 : decode cX1_exchange 70 = .ok (.iload_n 3, 1) := by decide +kernel
theorem dX1_exchange_71 : decode cX1_exchange 71 = .ok (.iload 4, 2) := by decide +kernel
theorem dX1_exchange_73 : decode cX1_exchange 73 = .ok (.iload 5, 2) := by decide +kernel
theorem dX1_exchange_75 : decode cX1_exchange 75 = .ok (.invokestatic 104, 3) := by decide +kernel
theorem dX1_exchange_78 : decode cX1_exchange 78 = .ok (.ifCond .eq 6, 3) := by decide +kernel
theorem dX1_exchange_81 : decode cX1_exchange 81 = .ok (.bipush (-3), 2) := by decide +kernel
theorem dX1_exchange_83 : decode cX1_exchange 83 = .ok (.ireturn, 1) := by decide +kernel
theorem dX1_exchange_84 : decode cX1_exchange 84 = .ok (.aload_n 0, 1) := by decide +kernel
theorem dX1_exchange_85 : decode cX1_exchange 85 = .ok (.iload_n 1, 1) := by decide +kernel
theorem dX1_exchange_86 : decode cX1_exchange 86 = .ok (.putfield 108, 3) := by decide +kernel
theorem dX1_exchange_89 : decode cX1_exchange 89 = .ok (.aload_n 0, 1) := by decide +kernel
theorem dX1_exchange_90 : decode cX1_exchange 90 = .ok (.iload_n 2, 1) := by decide +kernel
theorem dX1_exchange_91 : decode cX1_exchange 91 = .ok (.putfield 111, 3) := by decide +kernel
theorem dX1_exchange_94 : decode cX1_exchange 94 = .ok (.aload_n 0, 1) := by decide +kernel
theorem dX1_exchange_95 : decode cX1_exchange 95 = .ok (.iload_n 3, 1) := by decide +kernel
theorem dX1_exchange_96 : decode cX1_exchange 96 = .ok (.putfield 114, 3) := by decide +kernel
theorem dX1_exchange_99 : decode cX1_exchange 99 = .ok (.aload_n 0, 1) := by decide +kernel
theorem dX1_exchange_100 : decode cX1_exchange 100 = .ok (.iload 4, 2) := by decide +kernel
theorem dX1_exchange_102 : decode cX1_exchange 102 = .ok (.putfield 117, 3) := by decide +kernel
theorem dX1_exchange_105 : decode cX1_exchange 105 = .ok (.aload_n 0, 1) := by decide +kernel
theorem dX1_exchange_106 : decode cX1_exchange 106 = .ok (.iload 5, 2) := by decide +kernel
theorem dX1_exchange_108 : decode cX1_exchange 108 = .ok (.putfield 120, 3) := by decide +kernel
theorem dX1_exchange_111 : decode cX1_exchange 111 = .ok (.aload_n 0, 1) := by decide +kernel
theorem dX1_exchange_112 : decode cX1_exchange 112 = .ok (.aload_n 0, 1) := by decide +kernel
theorem dX1_exchange_113 : decode cX1_exchange 113 = .ok (.getfield 29, 3) := by decide +kernel
theorem dX1_exchange_116 : decode cX1_exchange 116 = .ok (.bipush (-9), 2) := by decide +kernel
theorem dX1_exchange_118 : decode cX1_exchange 118 = .ok (.if_icmp .eq 19, 3) := by decide +kernel
theorem dX1_exchange_121 : decode cX1_exchange 121 = .ok (.aload_n 0, 1) := by decide +kernel
theorem dX1_exchange_122 : decode cX1_exchange 122 = .ok (.getfield 29, 3) := by decide +kernel
theorem dX1_exchange_125 : decode cX1_exchange 125 = .ok (.iload 5, 2) := by decide +kernel
theorem dX1_exchange_127 : decode cX1_exchange 127 = .ok (.if_icmp .ge 10, 3) := by decide +kernel
theorem dX1_exchange_130 : decode cX1_exchange 130 = .ok (.aload_n 0, 1) := by decide +kernel
theorem dX1_exchange_131 : decode cX1_exchange 131 = .ok (.getfield 29, 3) := by decide +kernel
theorem dX1_exchange_134 : decode cX1_exchange 134 = .ok (.goto 5, 3) := by decide +kernel
theorem dX1_exchange_137 : decode cX1_exchange 137 = .ok (.iload 5, 2) := by decide +kernel
theorem dX1_exchange_139 : decode cX1_exchange 139 = .ok (.putfield 123, 3) := by decide +kernel
theorem dX1_exchange_142 : decode cX1_exchange 142 = .ok (.iconst 0, 1) := by decide +kernel
theorem dX1_exchange_143 : decode cX1_exchange 143 = .ok (.istore 6, 2) := by decide +kernel
theorem dX1_exchange_145 : decode cX1_exchange 145 = .ok (.iload 6, 2) := by decide +kernel
theorem dX1_exchange_147 : decode cX1_exchange 147 = .ok (.aload_n 0, 1) := by decide +kernel
theorem dX1_exchange_148 : decode cX1_exchange 148 = .ok (.getfield 123, 3) := by decide +kernel
theorem dX1_exchange_151 : decode cX1_exchange 151 = .ok (.if_icmp .ge 15, 3) := by decide +kernel
theorem dX1_exchange_154 : decode cX1_exchange 154 = .ok (.aload_n 0, 1) := by decide +kernel
theorem dX1_exchange_155 : decode cX1_exchange 155 = .ok (.iload 6, 2) := by decide +kernel
theorem dX1_exchange_157 : decode cX1_exchange 157 = .ok (.invokevirtual 126, 3) := by decide +kernel
theorem dX1_exchange_160 : decode cX1_exchange 160 = .ok (.iinc 6 1, 3) := by decide +kernel
theorem dX1_exchange_163 : decode cX1_exchange 163 = .ok (.goto (-18), 3) := by decide +kernel
theorem dX1_exchange_166 : decode cX1_exchange 166 = .ok (.aload_n 0, 1) := by decide +kernel
theorem dX1_exchange_167 : decode cX1_exchange 167 = .ok (.aload_n 0, 1) := by decide +kernel
theorem dX1_exchange_168 : decode cX1_exchange 168 = .ok (.getfield 123, 3) := by decide +kernel
theorem dX1_exchange_171 : decode cX1_exchange 171 = .ok (.iload 5, 2) := by decide +kernel
theorem dX1_exchange_173 : decode cX1_exchange 173 = .ok (.if_icmp .ge 7, 3) := by decide +kernel
theorem dX1_exchange_176 : decode cX1_exchange 176 = .ok (.iconst 1, 1) := by decide +kernel
theorem dX1_exchange_177 : decode cX1_exchange 177 = .ok (.goto 4, 3) := by decide +kernel
theorem dX1_exchange_180 : decode cX1_exchange 180 = .ok (.iconst 0, 1) := by decide +kernel
theorem dX1_exchange_181 : decode cX1_exchange 181 = .ok (.putfield 74, 3) := by decide +kernel
theorem dX1_exchange_184 : decode cX1_exchange 184 = .ok (.aload_n 0, 1) := by decide +kernel
theorem dX1_exchange_185 : decode cX1_exchange 185 = .ok (.bipush (-9), 2) := by decide +kernel
theorem dX1_exchange_187 : decode cX1_exchange 187 = .ok (.putfield 29, 3) := by decide +kernel
theorem dX1_exchange_190 : decode cX1_exchange 190 = .ok (.aload_n 0, 1) := by decide +kernel
theorem dX1_exchange_191 : decode cX1_exchange 191 = .ok (.getfield 123, 3) := by decide +kernel
theorem dX1_exchange_194 : decode cX1_exchange 194 = .ok (.ireturn, 1) := by decide +kernel
theorem dX1_mount_0 : decode cX1_mount 0 = .ok (.aload_n 0, 1) := by decide +kernel
theorem dX1_mount_1 : decode cX1_mount 1 = .ok (.getfield 74, 3) := by decide +kernel
theorem dX1_mount_4 : decode cX1_mount 4 = .ok (.ifCond .ne 6, 3) := by decide +kernel
theorem dX1_mount_7 : decode cX1_mount 7 = .ok (.bipush (-3), 2) := by decide +kernel
theorem dX1_mount_9 : decode cX1_mount 9 = .ok (.ireturn, 1) := by decide +kernel
theorem dX1_mount_10 : decode cX1_mount 10 = .ok (.iload_n 1, 1) := by decide +kernel
theorem dX1_mount_11 : decode cX1_mount 11 = .ok (.ifCond .eq 10, 3) := by decide +kernel
theorem dX1_mount_14 : decode cX1_mount 14 = .ok (.aload_n 0, 1) := by decide +kernel
theorem dX1_mount_15 : decode cX1_mount 15 = .ok (.getfield 123, 3) := by decide +kernel
theorem dX1_mount_18 : decode cX1_mount 18 = .ok (.goto 4, 3) := by decide +kernel
theorem dX1_mount_21 : decode cX1_mount 21 = .ok (.iconst 0, 1) := by decide +kernel
theorem dX1_mount_22 : decode cX1_mount 22 = .ok (.istore_n 2, 1) := by decide +kernel
theorem dX1_mount_23 : decode cX1_mount 23 = .ok (.iload_n 1, 1) := by decide +kernel
theorem dX1_mount_24 : decode cX1_mount 24 = .ok (.ifCond .eq 10, 3) := by decide +kernel
theorem dX1_mount_27 : decode cX1_mount 27 = .ok (.aload_n 0, 1) := by decide +kernel
theorem dX1_mount_28 : decode cX1_mount 28 = .ok (.getfield 120, 3) := by decide +kernel
theorem dX1_mount_31 : decode cX1_mount 31 = .ok (.goto 7, 3) := by decide +kernel
theorem dX1_mount_34 : decode cX1_mount 34 = .ok (.aload_n 0, 1) := by decide +kernel
theorem dX1_mount_35 : decode cX1_mount 35 = .ok (.getfield 123, 3) := by decide +kernel
theorem dX1_mount_38 : decode cX1_mount 38 = .ok (.istore_n 3, 1) := by decide +kernel
theorem dX1_mount_39 : decode cX1_mount 39 = .ok (.iload_n 2, 1) := by decide +kernel
theorem dX1_mount_40 : decode cX1_mount 40 = .ok (.istore 4, 2) := by decide +kernel
theorem dX1_mount_42 : decode cX1_mount 42 = .ok (.iload 4, 2) := by decide +kernel
theorem dX1_mount_44 : decode cX1_mount 44 = .ok (.iload_n 3, 1) := by decide +kernel
theorem dX1_mount_45 : decode cX1_mount 45 = .ok (.if_icmp .ge 15, 3) := by decide +kernel
theorem dX1_mount_48 : decode cX1_mount 48 = .ok (.aload_n 0, 1) := by decide +kernel
theorem dX1_mount_49 : decode cX1_mount 49 = .ok (.iload 4, 2) := by decide +kernel
theorem dX1_mount_51 : decode cX1_mount 51 = .ok (.invokevirtual 126, 3) := by decide +kernel
theorem dX1_mount_54 : decode cX1_mount 54 = .ok (.iinc 4 1, 3) := by decide +kernel
theorem dX1_mount_57 : decode cX1_mount 57 = .ok (.goto (-15), 3) := by decide +kernel
theorem dX1_mount_60 : decode cX1_mount 60 = .ok (.aload_n 0, 1) := by decide +kernel
theorem dX1_mount_61 : decode cX1_mount 61 = .ok (.iconst 0, 1) := by decide +kernel
theorem dX1_mount_62 : decode cX1_mount 62 = .ok (.putfield 74, 3) := by decide +kernel
theorem dX1_mount_65 : decode cX1_mount 65 = .ok (.iload_n 3, 1) := by decide +kernel
theorem dX1_mount_66 : decode cX1_mount 66 = .ok (.iload_n 2, 1) := by decide +kernel
theorem dX1_mount_67 : decode cX1_mount 67 = .ok (.isub, 1) := by decide +kernel
theorem dX1_mount_68 : decode cX1_mount 68 = .ok (.ireturn, 1) := by decide +kernel
theorem dX1_beginsPiece_0 : decode cX1_beginsPiece 0 = .ok (.aload_n 0, 1) := by decide +kernel
theorem dX1_beginsPiece_1 : decode cX1_beginsPiece 1 = .ok (.getfield 16, 3) := by decide +kernel
theorem dX1_beginsPiece_4 : decode cX1_beginsPiece 4 = .ok (.bipush 24, 2) := by decide +kernel
theorem dX1_beginsPiece_6 : decode cX1_beginsPiece 6 = .ok (.iload_n 1, 1) := by decide +kernel
theorem dX1_beginsPiece_7 : decode cX1_beginsPiece 7 = .ok (.imul, 1) := by decide +kernel
theorem dX1_beginsPiece_8 : decode cX1_beginsPiece 8 = .ok (.iload_n 2, 1) := by decide +kernel
theorem dX1_beginsPiece_9 : decode cX1_beginsPiece 9 = .ok (.iadd, 1) := by decide +kernel
theorem dX1_beginsPiece_10 : decode cX1_beginsPiece 10 = .ok (.iaload, 1) := by decide +kernel
theorem dX1_beginsPiece_11 : decode cX1_beginsPiece 11 = .ok (.istore_n 3, 1) := by decide +kernel
theorem dX1_beginsPiece_12 : decode cX1_beginsPiece 12 = .ok (.iload_n 3, 1) := by decide +kernel
theorem dX1_beginsPiece_13 : decode cX1_beginsPiece 13 = .ok (.bipush (-9), 2) := by decide +kernel
theorem dX1_beginsPiece_15 : decode cX1_beginsPiece 15 = .ok (.if_icmp .eq 48, 3) := by decide +kernel
theorem dX1_beginsPiece_18 : decode cX1_beginsPiece 18 = .ok (.iload_n 2, 1) := by decide +kernel
theorem dX1_beginsPiece_19 : decode cX1_beginsPiece 19 = .ok (.ifCond .eq 40, 3) := by decide +kernel
theorem dX1_beginsPiece_22 : decode cX1_beginsPiece 22 = .ok (.aload_n 0, 1) := by decide +kernel
theorem dX1_beginsPiece_23 : decode cX1_beginsPiece 23 = .ok (.getfield 16, 3) := by decide +kernel
theorem dX1_beginsPiece_26 : decode cX1_beginsPiece 26 = .ok (.bipush 24, 2) := by decide +kernel
theorem dX1_beginsPiece_28 : decode cX1_beginsPiece 28 = .ok (.iload_n 1, 1) := by decide +kernel
theorem dX1_beginsPiece_29 : decode cX1_beginsPiece 29 = .ok (.imul, 1) := by decide +kernel
theorem dX1_beginsPiece_30 : decode cX1_beginsPiece 30 = .ok (.iload_n 2, 1) := by decide +kernel
theorem dX1_beginsPiece_31 : decode cX1_beginsPiece 31 = .ok (.iadd, 1) := by decide +kernel
theorem dX1_beginsPiece_32 : decode cX1_beginsPiece 32 = .ok (.iconst 1, 1) := by decide +kernel
theorem dX1_beginsPiece_33 : decode cX1_beginsPiece 33 = .ok (.isub, 1) := by decide +kernel
theorem dX1_beginsPiece_34 : decode cX1_beginsPiece 34 = .ok (.iaload, 1) := by decide +kernel
theorem dX1_beginsPiece_35 : decode cX1_beginsPiece 35 = .ok (.bipush (-9), 2) := by decide +kernel
theorem dX1_beginsPiece_37 : decode cX1_beginsPiece 37 = .ok (.if_icmp .eq 22, 3) := by decide +kernel
theorem dX1_beginsPiece_40 : decode cX1_beginsPiece 40 = .ok (.aload_n 0, 1) := by decide +kernel
theorem dX1_beginsPiece_41 : decode cX1_beginsPiece 41 = .ok (.getfield 16, 3) := by decide +kernel
theorem dX1_beginsPiece_44 : decode cX1_beginsPiece 44 = .ok (.bipush 24, 2) := by decide +kernel
theorem dX1_beginsPiece_46 : decode cX1_beginsPiece 46 = .ok (.iload_n 1, 1) := by decide +kernel
theorem dX1_beginsPiece_47 : decode cX1_beginsPiece 47 = .ok (.imul, 1) := by decide +kernel
theorem dX1_beginsPiece_48 : decode cX1_beginsPiece 48 = .ok (.iload_n 2, 1) := by decide +kernel
theorem dX1_beginsPiece_49 : decode cX1_beginsPiece 49 = .ok (.iadd, 1) := by decide +kernel
theorem dX1_beginsPiece_50 : decode cX1_beginsPiece 50 = .ok (.iconst 1, 1) := by decide +kernel
theorem dX1_beginsPiece_51 : decode cX1_beginsPiece 51 = .ok (.isub, 1) := by decide +kernel
theorem dX1_beginsPiece_52 : decode cX1_beginsPiece 52 = .ok (.iaload, 1) := by decide +kernel
theorem dX1_beginsPiece_53 : decode cX1_beginsPiece 53 = .ok (.iconst 1, 1) := by decide +kernel
theorem dX1_beginsPiece_54 : decode cX1_beginsPiece 54 = .ok (.iadd, 1) := by decide +kernel
theorem dX1_beginsPiece_55 : decode cX1_beginsPiece 55 = .ok (.iload_n 3, 1) := by decide +kernel
theorem dX1_beginsPiece_56 : decode cX1_beginsPiece 56 = .ok (.if_icmp .eq 7, 3) := by decide +kernel
theorem dX1_beginsPiece_59 : decode cX1_beginsPiece 59 = .ok (.iconst 1, 1) := by decide +kernel
theorem dX1_beginsPiece_60 : decode cX1_beginsPiece 60 = .ok (.goto 4, 3) := by decide +kernel
theorem dX1_beginsPiece_63 : decode cX1_beginsPiece 63 = .ok (.iconst 0, 1) := by decide +kernel
theorem dX1_beginsPiece_64 : decode cX1_beginsPiece 64 = .ok (.ireturn, 1) := by decide +kernel
theorem dX1_pieces_0 : decode cX1_pieces 0 = .ok (.iconst 0, 1) := by decide +kernel
theorem dX1_pieces_1 : decode cX1_pieces 1 = .ok (.istore_n 2, 1) := by decide +kernel
theorem dX1_pieces_2 : decode cX1_pieces 2 = .ok (.iconst 0, 1) := by decide +kernel
theorem dX1_pieces_3 : decode cX1_pieces 3 = .ok (.istore_n 3, 1) := by decide +kernel
theorem dX1_pieces_4 : decode cX1_pieces 4 = .ok (.iload_n 3, 1) := by decide +kernel
theorem dX1_pieces_5 : decode cX1_pieces 5 = .ok (.bipush 24, 2) := by decide +kernel
theorem dX1_pieces_7 : decode cX1_pieces 7 = .ok (.if_icmp .ge 26, 3) := by decide +kernel
theorem dX1_pieces_10 : decode cX1_pieces 10 = .ok (.iload_n 2, 1) := by decide +kernel
theorem dX1_pieces_11 : decode cX1_pieces 11 = .ok (.aload_n 0, 1) := by decide +kernel
theorem dX1_pieces_12 : decode cX1_pieces 12 = .ok (.iload_n 1, 1) := by decide +kernel
theorem dX1_pieces_13 : decode cX1_pieces 13 = .ok (.iload_n 3, 1) := by decide +kernel
theorem dX1_pieces_14 : decode cX1_pieces 14 = .ok (.invokevirtual 130, 3) := by decide +kernel
theorem dX1_pieces_17 : decode cX1_pieces 17 = .ok (.ifCond .eq 7, 3) := by decide +kernel
theorem dX1_pieces_20 : decode cX1_pieces 20 = .ok (.iconst 1, 1) := by decide +kernel
theorem dX1_pieces_21 : decode cX1_pieces 21 = .ok (.goto 4, 3) := by decide +kernel
theorem dX1_pieces_24 : decode cX1_pieces 24 = .ok (.iconst 0, 1) := by decide +kernel
theorem dX1_pieces_25 : decode cX1_pieces 25 = .ok (.iadd, 1) := by decide +kernel
theorem dX1_pieces_26 : decode cX1_pieces 26 = .ok (.istore_n 2, 1) := by decide +kernel
theorem dX1_pieces_27 : decode cX1_pieces 27 = .ok (.iinc 3 1, 3) := by decide +kernel
theorem dX1_pieces_30 : decode cX1_pieces 30 = .ok (.goto (-26), 3) := by decide +kernel
theorem dX1_pieces_33 : decode cX1_pieces 33 = .ok (.iload_n 2, 1) := by decide +kernel
theorem dX1_pieces_34 : decode cX1_pieces 34 = .ok (.ireturn, 1) := by decide +kernel
theorem dX1_sharedIn_0 : decode cX1_sharedIn 0 = .ok (.iconst 0, 1) := by decide +kernel
theorem dX1_sharedIn_1 : decode cX1_sharedIn 1 = .ok (.istore_n 2, 1) := by decide +kernel
theorem dX1_sharedIn_2 : decode cX1_sharedIn 2 = .ok (.iconst 0, 1) := by decide +kernel
theorem dX1_sharedIn_3 : decode cX1_sharedIn 3 = .ok (.istore_n 3, 1) := by decide +kernel
theorem dX1_sharedIn_4 : decode cX1_sharedIn 4 = .ok (.iload_n 3, 1) := by decide +kernel
theorem dX1_sharedIn_5 : decode cX1_sharedIn 5 = .ok (.bipush 24, 2) := by decide +kernel
theorem dX1_sharedIn_7 : decode cX1_sharedIn 7 = .ok (.if_icmp .ge 26, 3) := by decide +kernel
theorem dX1_sharedIn_10 : decode cX1_sharedIn 10 = .ok (.iload_n 2, 1) := by decide +kernel
theorem dX1_sharedIn_11 : decode cX1_sharedIn 11 = .ok (.aload_n 0, 1) := by decide +kernel
theorem dX1_sharedIn_12 : decode cX1_sharedIn 12 = .ok (.iload_n 1, 1) := by decide +kernel
theorem dX1_sharedIn_13 : decode cX1_sharedIn 13 = .ok (.iload_n 3, 1) := by decide +kernel
theorem dX1_sharedIn_14 : decode cX1_sharedIn 14 = .ok (.invokevirtual 57, 3) := by decide +kernel
theorem dX1_sharedIn_17 : decode cX1_sharedIn 17 = .ok (.ifCond .eq 7, 3) := by decide +kernel
theorem dX1_sharedIn_20 : decode cX1_sharedIn 20 = .ok (.iconst 1, 1) := by decide +kernel
theorem dX1_sharedIn_21 : decode cX1_sharedIn 21 = .ok (.goto 4, 3) := by decide +kernel
theorem dX1_sharedIn_24 : decode cX1_sharedIn 24 = .ok (.iconst 0, 1) := by decide +kernel
theorem dX1_sharedIn_25 : decode cX1_sharedIn 25 = .ok (.iadd, 1) := by decide +kernel
theorem dX1_sharedIn_26 : decode cX1_sharedIn 26 = .ok (.istore_n 2, 1) := by decide +kernel
theorem dX1_sharedIn_27 : decode cX1_sharedIn 27 = .ok (.iinc 3 1, 3) := by decide +kernel
theorem dX1_sharedIn_30 : decode cX1_sharedIn 30 = .ok (.goto (-26), 3) := by decide +kernel
theorem dX1_sharedIn_33 : decode cX1_sharedIn 33 = .ok (.iload_n 2, 1) := by decide +kernel
theorem dX1_sharedIn_34 : decode cX1_sharedIn 34 = .ok (.ireturn, 1) := by decide +kernel
theorem dX1_placesIn_0 : decode cX1_placesIn 0 = .ok (.iconst 0, 1) := by decide +kernel
theorem dX1_placesIn_1 : decode cX1_placesIn 1 = .ok (.istore_n 2, 1) := by decide +kernel
theorem dX1_placesIn_2 : decode cX1_placesIn 2 = .ok (.iconst 0, 1) := by decide +kernel
theorem dX1_placesIn_3 : decode cX1_placesIn 3 = .ok (.istore_n 3, 1) := by decide +kernel
theorem dX1_placesIn_4 : decode cX1_placesIn 4 = .ok (.iload_n 3, 1) := by decide +kernel
theorem dX1_placesIn_5 : decode cX1_placesIn 5 = .ok (.bipush 24, 2) := by decide +kernel
theorem dX1_placesIn_7 : decode cX1_placesIn 7 = .ok (.if_icmp .ge 33, 3) := by decide +kernel
theorem dX1_placesIn_10 : decode cX1_placesIn 10 = .ok (.iload_n 2, 1) := by decide +kernel
theorem dX1_placesIn_11 : decode cX1_placesIn 11 = .ok (.aload_n 0, 1) := by decide +kernel
theorem dX1_placesIn_12 : decode cX1_placesIn 12 = .ok (.getfield 16, 3) := by decide +kernel
theorem dX1_placesIn_15 : decode cX1_placesIn 15 = .ok (.bipush 24, 2) := by decide +kernel
theorem dX1_placesIn_17 : decode cX1_placesIn 17 = .ok (.iload_n 1, 1) := by decide +kernel
theorem dX1_placesIn_18 : decode cX1_placesIn 18 = .ok (.imul, 1) := by decide +kernel
theorem dX1_placesIn_19 : decode cX1_placesIn 19 = .ok (.iload_n 3, 1) := by decide +kernel
theorem dX1_placesIn_20 : decode cX1_placesIn 20 = .ok (.iadd, 1) := by decide +kernel
theorem dX1_placesIn_21 : decode cX1_placesIn 21 = .ok (.iaload, 1) := by decide +kernel
theorem dX1_placesIn_22 : decode cX1_placesIn 22 = .ok (.bipush (-9), 2) := by decide +kernel
theorem dX1_placesIn_24 : decode cX1_placesIn 24 = .ok (.if_icmp .eq 7, 3) := by decide +kernel
theorem dX1_placesIn_27 : decode cX1_placesIn 27 = .ok (.iconst 1, 1) := by decide +kernel
theorem dX1_placesIn_28 : decode cX1_placesIn 28 = .ok (.goto 4, 3) := by decide +kernel
theorem dX1_placesIn_31 : decode cX1_placesIn 31 = .ok (.iconst 0, 1) := by decide +kernel
theorem dX1_placesIn_32 : decode cX1_placesIn 32 = .ok (.iadd, 1) := by decide +kernel
theorem dX1_placesIn_33 : decode cX1_placesIn 33 = .ok (.istore_n 2, 1) := by decide +kernel
theorem dX1_placesIn_34 : decode cX1_placesIn 34 = .ok (.iinc 3 1, 3) := by decide +kernel
theorem dX1_placesIn_37 : decode cX1_placesIn 37 = .ok (.goto (-33), 3) := by decide +kernel
theorem dX1_placesIn_40 : decode cX1_placesIn 40 = .ok (.iload_n 2, 1) := by decide +kernel
theorem dX1_placesIn_41 : decode cX1_placesIn 41 = .ok (.ireturn, 1) := by decide +kernel
theorem dX1_ofFile_0 : decode cX1_ofFile 0 = .ok (.iload_n 1, 1) := by decide +kernel
theorem dX1_ofFile_1 : decode cX1_ofFile 1 = .ok (.invokestatic 71, 3) := by decide +kernel
theorem dX1_ofFile_4 : decode cX1_ofFile 4 = .ok (.ifCond .ne 5, 3) := by decide +kernel
theorem dX1_ofFile_7 : decode cX1_ofFile 7 = .ok (.iconst (-1), 1) := by decide +kernel
theorem dX1_ofFile_8 : decode cX1_ofFile 8 = .ok (.ireturn, 1) := by decide +kernel
theorem dX1_ofFile_9 : decode cX1_ofFile 9 = .ok (.iload_n 2, 1) := by decide +kernel
theorem dX1_ofFile_10 : decode cX1_ofFile 10 = .ok (.tableswitch 55 0 3 #[30, 37, 43, 49], 30) := by decide +kernel
theorem dX1_ofFile_40 : decode cX1_ofFile 40 = .ok (.aload_n 0, 1) := by decide +kernel
theorem dX1_ofFile_41 : decode cX1_ofFile 41 = .ok (.getfield 13, 3) := by decide +kernel
theorem dX1_ofFile_44 : decode cX1_ofFile 44 = .ok (.iload_n 1, 1) := by decide +kernel
theorem dX1_ofFile_45 : decode cX1_ofFile 45 = .ok (.iaload, 1) := by decide +kernel
theorem dX1_ofFile_46 : decode cX1_ofFile 46 = .ok (.ireturn, 1) := by decide +kernel
theorem dX1_ofFile_47 : decode cX1_ofFile 47 = .ok (.aload_n 0, 1) := by decide +kernel
theorem dX1_ofFile_48 : decode cX1_ofFile 48 = .ok (.iload_n 1, 1) := by decide +kernel
theorem dX1_ofFile_49 : decode cX1_ofFile 49 = .ok (.invokevirtual 133, 3) := by decide +kernel
theorem dX1_ofFile_52 : decode cX1_ofFile 52 = .ok (.ireturn, 1) := by decide +kernel
theorem dX1_ofFile_53 : decode cX1_ofFile 53 = .ok (.aload_n 0, 1) := by decide +kernel
theorem dX1_ofFile_54 : decode cX1_ofFile 54 = .ok (.iload_n 1, 1) := by decide +kernel
theorem dX1_ofFile_55 : decode cX1_ofFile 55 = .ok (.invokevirtual 136, 3) := by decide +kernel
theorem dX1_ofFile_58 : decode cX1_ofFile 58 = .ok (.ireturn, 1) := by decide +kernel
theorem dX1_ofFile_59 : decode cX1_ofFile 59 = .ok (.aload_n 0, 1) := by decide +kernel
theorem dX1_ofFile_60 : decode cX1_ofFile 60 = .ok (.iload_n 1, 1) := by decide +kernel
theorem dX1_ofFile_61 : decode cX1_ofFile 61 = .ok (.invokevirtual 139, 3) := by decide +kernel
theorem dX1_ofFile_64 : decode cX1_ofFile 64 = .ok (.ireturn, 1) := by decide +kernel
theorem dX1_ofFile_65 : decode cX1_ofFile 65 = .ok (.bipush (-2), 2) := by decide +kernel
theorem dX1_ofFile_67 : decode cX1_ofFile 67 = .ok (.ireturn, 1) := by decide +kernel
theorem dX1_block_0 : decode cX1_block 0 = .ok (.iload_n 1, 1) := by decide +kernel
theorem dX1_block_1 : decode cX1_block 1 = .ok (.invokestatic 71, 3) := by decide +kernel
theorem dX1_block_4 : decode cX1_block 4 = .ok (.ifCond .ne 5, 3) := by decide +kernel
theorem dX1_block_7 : decode cX1_block 7 = .ok (.iconst (-1), 1) := by decide +kernel
theorem dX1_block_8 : decode cX1_block 8 = .ok (.ireturn, 1) := by decide +kernel
theorem dX1_block_9 : decode cX1_block 9 = .ok (.iload_n 2, 1) := by decide +kernel
theorem dX1_block_10 : decode cX1_block 10 = .ok (.invokestatic 98, 3) := by decide +kernel
theorem dX1_block_13 : decode cX1_block 13 = .ok (.ifCond .eq 17, 3) := by decide +kernel
theorem dX1_block_16 : decode cX1_block 16 = .ok (.aload_n 0, 1) := by decide +kernel
theorem dX1_block_17 : decode cX1_block 17 = .ok (.getfield 16, 3) := by decide +kernel
theorem dX1_block_20 : decode cX1_block 20 = .ok (.bipush 24, 2) := by decide +kernel
theorem dX1_block_22 : decode cX1_block 22 = .ok (.iload_n 1, 1) := by decide +kernel
theorem dX1_block_23 : decode cX1_block 23 = .ok (.imul, 1) := by decide +kernel
theorem dX1_block_24 : decode cX1_block 24 = .ok (.iload_n 2, 1) := by decide +kernel
theorem dX1_block_25 : decode cX1_block 25 = .ok (.iadd, 1) := by decide +kernel
theorem dX1_block_26 : decode cX1_block 26 = .ok (.iaload, 1) := by decide +kernel
theorem dX1_block_27 : decode cX1_block 27 = .ok (.goto 5, 3) := by decide +kernel
theorem dX1_block_30 : decode cX1_block 30 = .ok (.bipush (-2), 2) := by decide +kernel
theorem dX1_block_32 : decode cX1_block 32 = .ok (.ireturn, 1) := by decide +kernel
theorem dX1_lengthOfPiece_0 : decode cX1_lengthOfPiece 0 = .ok (.iconst 1, 1) := by decide +kernel
theorem dX1_lengthOfPiece_1 : decode cX1_lengthOfPiece 1 = .ok (.istore_n 3, 1) := by decide +kernel
theorem dX1_lengthOfPiece_2 : decode cX1_lengthOfPiece 2 = .ok (.iload_n 2, 1) := by decide +kernel
theorem dX1_lengthOfPiece_3 : decode cX1_lengthOfPiece 3 = .ok (.iload_n 3, 1) := by decide +kernel
theorem dX1_lengthOfPiece_4 : decode cX1_lengthOfPiece 4 = .ok (.iadd, 1) := by decide +kernel
theorem dX1_lengthOfPiece_5 : decode cX1_lengthOfPiece 5 = .ok (.bipush 24, 2) := by decide +kernel
theorem dX1_lengthOfPiece_7 : decode cX1_lengthOfPiece 7 = .ok (.if_icmp .ge 38, 3) := by decide +kernel
theorem dX1_lengthOfPiece_10 : decode cX1_lengthOfPiece 10 = .ok (.aload_n 0, 1) := by decide +kernel
theorem dX1_lengthOfPiece_11 : decode cX1_lengthOfPiece 11 = .ok (.getfield 16, 3) := by decide +kernel
theorem dX1_lengthOfPiece_14 : decode cX1_lengthOfPiece 14 = .ok (.bipush 24, 2) := by decide +kernel
theorem dX1_lengthOfPiece_16 : decode cX1_lengthOfPiece 16 = .ok (.iload_n 1, 1) := by decide +kernel
theorem dX1_lengthOfPiece_17 : decode cX1_lengthOfPiece 17 = .ok (.imul, 1) := by decide +kernel
theorem dX1_lengthOfPiece_18 : decode cX1_lengthOfPiece 18 = .ok (.iload_n 2, 1) := by decide +kernel
theorem dX1_lengthOfPiece_19 : decode cX1_lengthOfPiece 19 = .ok (.iadd, 1) := by decide +kernel
theorem dX1_lengthOfPiece_20 : decode cX1_lengthOfPiece 20 = .ok (.iload_n 3, 1) := by decide +kernel
theorem dX1_lengthOfPiece_21 : decode cX1_lengthOfPiece 21 = .ok (.iadd, 1) := by decide +kernel
theorem dX1_lengthOfPiece_22 : decode cX1_lengthOfPiece 22 = .ok (.iaload, 1) := by decide +kernel
theorem dX1_lengthOfPiece_23 : decode cX1_lengthOfPiece 23 = .ok (.bipush (-9), 2) := by decide +kernel
theorem dX1_lengthOfPiece_25 : decode cX1_lengthOfPiece 25 = .ok (.if_icmp .eq 20, 3) := by decide +kernel
theorem dX1_lengthOfPiece_28 : decode cX1_lengthOfPiece 28 = .ok (.aload_n 0, 1) := by decide +kernel
theorem dX1_lengthOfPiece_29 : decode cX1_lengthOfPiece 29 = .ok (.iload_n 1, 1) := by decide +kernel
theorem dX1_lengthOfPiece_30 : decode cX1_lengthOfPiece 30 = .ok (.iload_n 2, 1) := by decide +kernel
theorem dX1_lengthOfPiece_31 : decode cX1_lengthOfPiece 31 = .ok (.iload_n 3, 1) := by decide +kernel
theorem dX1_lengthOfPiece_32 : decode cX1_lengthOfPiece 32 = .ok (.iadd, 1) := by decide +kernel
theorem dX1_lengthOfPiece_33 : decode cX1_lengthOfPiece 33 = .ok (.invokevirtual 130, 3) := by decide +kernel
theorem dX1_lengthOfPiece_36 : decode cX1_lengthOfPiece 36 = .ok (.ifCond .ne 9, 3) := by decide +kernel
theorem dX1_lengthOfPiece_39 : decode cX1_lengthOfPiece 39 = .ok (.iinc 3 1, 3) := by decide +kernel
theorem dX1_lengthOfPiece_42 : decode cX1_lengthOfPiece 42 = .ok (.goto (-40), 3) := by decide +kernel
theorem dX1_lengthOfPiece_45 : decode cX1_lengthOfPiece 45 = .ok (.iload_n 3, 1) := by decide +kernel
theorem dX1_lengthOfPiece_46 : decode cX1_lengthOfPiece 46 = .ok (.ireturn, 1) := by decide +kernel
theorem dX1_piece_0 : decode cX1_piece 0 = .ok (.iload_n 1, 1) := by decide +kernel
theorem dX1_piece_1 : decode cX1_piece 1 = .ok (.invokestatic 71, 3) := by decide +kernel
theorem dX1_piece_4 : decode cX1_piece 4 = .ok (.ifCond .ne 5, 3) := by decide +kernel
theorem dX1_piece_7 : decode cX1_piece 7 = .ok (.iconst (-1), 1) := by decide +kernel
theorem dX1_piece_8 : decode cX1_piece 8 = .ok (.ireturn, 1) := by decide +kernel
theorem dX1_piece_9 : decode cX1_piece 9 = .ok (.iload_n 2, 1) := by decide +kernel
theorem dX1_piece_10 : decode cX1_piece 10 = .ok (.invokestatic 98, 3) := by decide +kernel
theorem dX1_piece_13 : decode cX1_piece 13 = .ok (.ifCond .eq 12, 3) := by decide +kernel
theorem dX1_piece_16 : decode cX1_piece 16 = .ok (.iload_n 3, 1) := by decide +kernel
theorem dX1_piece_17 : decode cX1_piece 17 = .ok (.iconst 0, 1) := by decide +kernel
theorem dX1_piece_18 : decode cX1_piece 18 = .ok (.iconst 2, 1) := by decide +kernel
theorem dX1_piece_19 : decode cX1_piece 19 = .ok (.invokestatic 33, 3) := by decide +kernel
theorem dX1_piece_22 : decode cX1_piece 22 = .ok (.ifCond .ne 6, 3) := by decide +kernel
theorem dX1_piece_25 : decode cX1_piece 25 = .ok (.bipush (-2), 2) := by decide +kernel
theorem dX1_piece_27 : decode cX1_piece 27 = .ok (.ireturn, 1) := by decide +kernel
theorem dX1_piece_28 : decode cX1_piece 28 = .ok (.iconst 0, 1) := by decide +kernel
theorem dX1_piece_29 : decode cX1_piece 29 = .ok (.istore 4, 2) := by decide +kernel
theorem dX1_piece_31 : decode cX1_piece 31 = .ok (.iconst 0, 1) := by decide +kernel
theorem dX1_piece_32 : decode cX1_piece 32 = .ok (.istore 5, 2) := by decide +kernel
theorem dX1_piece_34 : decode cX1_piece 34 = .ok (.iload 5, 2) := by decide +kernel
theorem dX1_piece_36 : decode cX1_piece 36 = .ok (.bipush 24, 2) := by decide +kernel
theorem dX1_piece_38 : decode cX1_piece 38 = .ok (.if_icmp .ge 65, 3) := by decide +kernel
theorem dX1_piece_41 : decode cX1_piece 41 = .ok (.aload_n 0, 1) := by decide +kernel
theorem dX1_piece_42 : decode cX1_piece 42 = .ok (.iload_n 1, 1) := by decide +kernel
theorem dX1_piece_43 : decode cX1_piece 43 = .ok (.iload 5, 2) := by decide +kernel
theorem dX1_piece_45 : decode cX1_piece 45 = .ok (.invokevirtual 130, 3) := by decide +kernel
theorem dX1_piece_48 : decode cX1_piece 48 = .ok (.ifCond .eq 49, 3) := by decide +kernel
theorem dX1_piece_51 : decode cX1_piece 51 = .ok (.iload 4, 2) := by decide +kernel
theorem dX1_piece_53 : decode cX1_piece 53 = .ok (.iload_n 2, 1) := by decide +kernel
theorem dX1_piece_54 : decode cX1_piece 54 = .ok (.if_icmp .ne 40, 3) := by decide +kernel
theorem dX1_piece_57 : decode cX1_piece 57 = .ok (.iload_n 3, 1) := by decide +kernel
theorem dX1_piece_58 : decode cX1_piece 58 = .ok (.ifCond .ne 8, 3) := by decide +kernel
theorem dX1_piece_61 : decode cX1_piece 61 = .ok (.iload 5, 2) := by decide +kernel
theorem dX1_piece_63 : decode cX1_piece 63 = .ok (.goto 30, 3) := by decide +kernel
theorem dX1_piece_66 : decode cX1_piece 66 = .ok (.iload_n 3, 1) := by decide +kernel
theorem dX1_piece_67 : decode cX1_piece 67 = .ok (.iconst 1, 1) := by decide +kernel
theorem dX1_piece_68 : decode cX1_piece 68 = .ok (.if_icmp .ne 18, 3) := by decide +kernel
theorem dX1_piece_71 : decode cX1_piece 71 = .ok (.aload_n 0, 1) := by decide +kernel
theorem dX1_piece_72 : decode cX1_piece 72 = .ok (.getfield 16, 3) := by decide +kernel
theorem dX1_piece_75 : decode cX1_piece 75 = .ok (.bipush 24, 2) := by decide +kernel
theorem dX1_piece_77 : decode cX1_piece 77 = .ok (.iload_n 1, 1) := by decide +kernel
theorem dX1_piece_78 : decode cX1_piece 78 = .ok (.imul, 1) := by decide +kernel
theorem dX1_piece_79 : decode cX1_piece 79 = .ok (.iload 5, 2) := by decide +kernel
theorem dX1_piece_81 : decode cX1_piece 81 = .ok (.iadd, 1) := by decide +kernel
theorem dX1_piece_82 : decode cX1_piece 82 = .ok (.iaload, 1) := by decide +kernel
theorem dX1_piece_83 : decode cX1_piece 83 = .ok (.goto 10, 3) := by decide +kernel
theorem dX1_piece_86 : decode cX1_piece 86 = .ok (.aload_n 0, 1) := by decide +kernel
theorem dX1_piece_87 : decode cX1_piece 87 = .ok (.iload_n 1, 1) := by decide +kernel
theorem dX1_piece_88 : decode cX1_piece 88 = .ok (.iload 5, 2) := by decide +kernel
theorem dX1_piece_90 : decode cX1_piece 90 = .ok (.invokevirtual 142, 3) := by decide +kernel
theorem dX1_piece_93 : decode cX1_piece 93 = .ok (.ireturn, 1) := by decide +kernel
theorem dX1_piece_94 : decode cX1_piece 94 = .ok (.iinc 4 1, 3) := by decide +kernel
theorem dX1_piece_97 : decode cX1_piece 97 = .ok (.iinc 5 1, 3) := by decide +kernel
theorem dX1_piece_100 : decode cX1_piece 100 = .ok (.goto (-66), 3) := by decide +kernel
theorem dX1_piece_103 : decode cX1_piece 103 = .ok (.bipush (-9), 2) := by decide +kernel
theorem dX1_piece_105 : decode cX1_piece 105 = .ok (.ireturn, 1) := by decide +kernel
theorem dX1_seek_0 : decode cX1_seek 0 = .ok (.iload_n 1, 1) := by decide +kernel
theorem dX1_seek_1 : decode cX1_seek 1 = .ok (.invokestatic 71, 3) := by decide +kernel
theorem dX1_seek_4 : decode cX1_seek 4 = .ok (.ifCond .ne 5, 3) := by decide +kernel
theorem dX1_seek_7 : decode cX1_seek 7 = .ok (.iconst (-1), 1) := by decide +kernel
theorem dX1_seek_8 : decode cX1_seek 8 = .ok (.ireturn, 1) := by decide +kernel
theorem dX1_seek_9 : decode cX1_seek 9 = .ok (.iload_n 2, 1) := by decide +kernel
theorem dX1_seek_10 : decode cX1_seek 10 = .ok (.iconst 0, 1) := by decide +kernel
theorem dX1_seek_11 : decode cX1_seek 11 = .ok (.bipush 96, 2) := by decide +kernel
theorem dX1_seek_13 : decode cX1_seek 13 = .ok (.invokestatic 33, 3) := by decide +kernel
theorem dX1_seek_16 : decode cX1_seek 16 = .ok (.ifCond .ne 6, 3) := by decide +kernel
theorem dX1_seek_19 : decode cX1_seek 19 = .ok (.bipush (-2), 2) := by decide +kernel
theorem dX1_seek_21 : decode cX1_seek 21 = .ok (.ireturn, 1) := by decide +kernel
theorem dX1_seek_22 : decode cX1_seek 22 = .ok (.iload_n 2, 1) := by decide +kernel
theorem dX1_seek_23 : decode cX1_seek 23 = .ok (.istore 4, 2) := by decide +kernel
theorem dX1_seek_25 : decode cX1_seek 25 = .ok (.iload 4, 2) := by decide +kernel
theorem dX1_seek_27 : decode cX1_seek 27 = .ok (.aload_n 0, 1) := by decide +kernel
theorem dX1_seek_28 : decode cX1_seek 28 = .ok (.getfield 13, 3) := by decide +kernel
theorem dX1_seek_31 : decode cX1_seek 31 = .ok (.iload_n 1, 1) := by decide +kernel
theorem dX1_seek_32 : decode cX1_seek 32 = .ok (.iaload, 1) := by decide +kernel
theorem dX1_seek_33 : decode cX1_seek 33 = .ok (.if_icmp .ge 40, 3) := by decide +kernel
theorem dX1_seek_36 : decode cX1_seek 36 = .ok (.aload_n 0, 1) := by decide +kernel
theorem dX1_seek_37 : decode cX1_seek 37 = .ok (.getfield 16, 3) := by decide +kernel
theorem dX1_seek_40 : decode cX1_seek 40 = .ok (.bipush 24, 2) := by decide +kernel
theorem dX1_seek_42 : decode cX1_seek 42 = .ok (.iload_n 1, 1) := by decide +kernel
theorem dX1_seek_43 : decode cX1_seek 43 = .ok (.imul, 1) := by decide +kernel
theorem dX1_seek_44 : decode cX1_seek 44 = .ok (.iload 4, 2) := by decide +kernel
theorem dX1_seek_46 : decode cX1_seek 46 = .ok (.iconst 4, 1) := by decide +kernel
theorem dX1_seek_47 : decode cX1_seek 47 = .ok (.idiv, 1) := by decide +kernel
theorem dX1_seek_48 : decode cX1_seek 48 = .ok (.iadd, 1) := by decide +kernel
theorem dX1_seek_49 : decode cX1_seek 49 = .ok (.iaload, 1) := by decide +kernel
theorem dX1_seek_50 : decode cX1_seek 50 = .ok (.bipush (-9), 2) := by decide +kernel
theorem dX1_seek_52 : decode cX1_seek 52 = .ok (.if_icmp .eq 7, 3) := by decide +kernel
theorem dX1_seek_55 : decode cX1_seek 55 = .ok (.iconst 1, 1) := by decide +kernel
theorem dX1_seek_56 : decode cX1_seek 56 = .ok (.goto 4, 3) := by decide +kernel
theorem dX1_seek_59 : decode cX1_seek 59 = .ok (.iconst 0, 1) := by decide +kernel
theorem dX1_seek_60 : decode cX1_seek 60 = .ok (.iload_n 3, 1) := by decide +kernel
theorem dX1_seek_61 : decode cX1_seek 61 = .ok (.if_icmp .ne 6, 3) := by decide +kernel
theorem dX1_seek_64 : decode cX1_seek 64 = .ok (.iload 4, 2) := by decide +kernel
theorem dX1_seek_66 : decode cX1_seek 66 = .ok (.ireturn, 1) := by decide +kernel
theorem dX1_seek_67 : decode cX1_seek 67 = .ok (.iinc 4 1, 3) := by decide +kernel
theorem dX1_seek_70 : decode cX1_seek 70 = .ok (.goto (-45), 3) := by decide +kernel
theorem dX1_seek_73 : decode cX1_seek 73 = .ok (.iload_n 3, 1) := by decide +kernel
theorem dX1_seek_74 : decode cX1_seek 74 = .ok (.ifCond .eq 8, 3) := by decide +kernel
theorem dX1_seek_77 : decode cX1_seek 77 = .ok (.bipush (-9), 2) := by decide +kernel
theorem dX1_seek_79 : decode cX1_seek 79 = .ok (.goto 23, 3) := by decide +kernel
theorem dX1_seek_82 : decode cX1_seek 82 = .ok (.iload_n 2, 1) := by decide +kernel
theorem dX1_seek_83 : decode cX1_seek 83 = .ok (.aload_n 0, 1) := by decide +kernel
theorem dX1_seek_84 : decode cX1_seek 84 = .ok (.getfield 13, 3) := by decide +kernel
theorem dX1_seek_87 : decode cX1_seek 87 = .ok (.iload_n 1, 1) := by decide +kernel
theorem dX1_seek_88 : decode cX1_seek 88 = .ok (.iaload, 1) := by decide +kernel
theorem dX1_seek_89 : decode cX1_seek 89 = .ok (.if_icmp .le 7, 3) := by decide +kernel
theorem dX1_seek_92 : decode cX1_seek 92 = .ok (.iload_n 2, 1) := by decide +kernel
theorem dX1_seek_93 : decode cX1_seek 93 = .ok (.goto 9, 3) := by decide +kernel
theorem dX1_seek_96 : decode cX1_seek 96 = .ok (.aload_n 0, 1) := by decide +kernel
theorem dX1_seek_97 : decode cX1_seek 97 = .ok (.getfield 13, 3) := by decide +kernel
theorem dX1_seek_100 : decode cX1_seek 100 = .ok (.iload_n 1, 1) := by decide +kernel
theorem dX1_seek_101 : decode cX1_seek 101 = .ok (.iaload, 1) := by decide +kernel
theorem dX1_seek_102 : decode cX1_seek 102 = .ok (.ireturn, 1) := by decide +kernel
theorem dX1_count_0 : decode cX1_count 0 = .ok (.iload_n 1, 1) := by decide +kernel
theorem dX1_count_1 : decode cX1_count 1 = .ok (.iconst 0, 1) := by decide +kernel
theorem dX1_count_2 : decode cX1_count 2 = .ok (.bipush 47, 2) := by decide +kernel
theorem dX1_count_4 : decode cX1_count 4 = .ok (.invokestatic 33, 3) := by decide +kernel
theorem dX1_count_7 : decode cX1_count 7 = .ok (.ifCond .eq 11, 3) := by decide +kernel
theorem dX1_count_10 : decode cX1_count 10 = .ok (.aload_n 0, 1) := by decide +kernel
theorem dX1_count_11 : decode cX1_count 11 = .ok (.iload_n 1, 1) := by decide +kernel
theorem dX1_count_12 : decode cX1_count 12 = .ok (.invokevirtual 37, 3) := by decide +kernel
theorem dX1_count_15 : decode cX1_count 15 = .ok (.goto 5, 3) := by decide +kernel
theorem dX1_count_18 : decode cX1_count 18 = .ok (.bipush (-2), 2) := by decide +kernel
theorem dX1_count_20 : decode cX1_count 20 = .ok (.ireturn, 1) := by decide +kernel
theorem dX1_beginsRange_0 : decode cX1_beginsRange 0 = .ok (.aload_n 0, 1) := by decide +kernel
theorem dX1_beginsRange_1 : decode cX1_beginsRange 1 = .ok (.iload_n 1, 1) := by decide +kernel
theorem dX1_beginsRange_2 : decode cX1_beginsRange 2 = .ok (.invokevirtual 37, 3) := by decide +kernel
theorem dX1_beginsRange_5 : decode cX1_beginsRange 5 = .ok (.ifCond .le 7, 3) := by decide +kernel
theorem dX1_beginsRange_8 : decode cX1_beginsRange 8 = .ok (.iconst 1, 1) := by decide +kernel
theorem dX1_beginsRange_9 : decode cX1_beginsRange 9 = .ok (.goto 4, 3) := by decide +kernel
theorem dX1_beginsRange_12 : decode cX1_beginsRange 12 = .ok (.iconst 0, 1) := by decide +kernel
theorem dX1_beginsRange_13 : decode cX1_beginsRange 13 = .ok (.iload_n 2, 1) := by decide +kernel
theorem dX1_beginsRange_14 : decode cX1_beginsRange 14 = .ok (.if_icmp .ne 7, 3) := by decide +kernel
theorem dX1_beginsRange_17 : decode cX1_beginsRange 17 = .ok (.iconst 1, 1) := by decide +kernel
theorem dX1_beginsRange_18 : decode cX1_beginsRange 18 = .ok (.goto 4, 3) := by decide +kernel
theorem dX1_beginsRange_21 : decode cX1_beginsRange 21 = .ok (.iconst 0, 1) := by decide +kernel
theorem dX1_beginsRange_22 : decode cX1_beginsRange 22 = .ok (.istore_n 3, 1) := by decide +kernel
theorem dX1_beginsRange_23 : decode cX1_beginsRange 23 = .ok (.iload_n 3, 1) := by decide +kernel
theorem dX1_beginsRange_24 : decode cX1_beginsRange 24 = .ok (.ifCond .eq 26, 3) := by decide +kernel
theorem dX1_beginsRange_27 : decode cX1_beginsRange 27 = .ok (.iload_n 1, 1) := by decide +kernel
theorem dX1_beginsRange_28 : decode cX1_beginsRange 28 = .ok (.ifCond .eq 18, 3) := by decide +kernel
theorem dX1_beginsRange_31 : decode cX1_beginsRange 31 = .ok (.aload_n 0, 1) := by decide +kernel
theorem dX1_beginsRange_32 : decode cX1_beginsRange 32 = .ok (.iload_n 1, 1) := by decide +kernel
theorem dX1_beginsRange_33 : decode cX1_beginsRange 33 = .ok (.iconst 1, 1) := by decide +kernel
theorem dX1_beginsRange_34 : decode cX1_beginsRange 34 = .ok (.isub, 1) := by decide +kernel
theorem dX1_beginsRange_35 : decode cX1_beginsRange 35 = .ok (.invokevirtual 37, 3) := by decide +kernel
theorem dX1_beginsRange_38 : decode cX1_beginsRange 38 = .ok (.aload_n 0, 1) := by decide +kernel
theorem dX1_beginsRange_39 : decode cX1_beginsRange 39 = .ok (.iload_n 1, 1) := by decide +kernel
theorem dX1_beginsRange_40 : decode cX1_beginsRange 40 = .ok (.invokevirtual 37, 3) := by decide +kernel
theorem dX1_beginsRange_43 : decode cX1_beginsRange 43 = .ok (.if_icmp .eq 7, 3) := by decide +kernel
theorem dX1_beginsRange_46 : decode cX1_beginsRange 46 = .ok (.iconst 1, 1) := by decide +kernel
theorem dX1_beginsRange_47 : decode cX1_beginsRange 47 = .ok (.goto 4, 3) := by decide +kernel
theorem dX1_beginsRange_50 : decode cX1_beginsRange 50 = .ok (.iconst 0, 1) := by decide +kernel
theorem dX1_beginsRange_51 : decode cX1_beginsRange 51 = .ok (.ireturn, 1) := by decide +kernel
theorem dX1_ranges_0 : decode cX1_ranges 0 = .ok (.iconst 0, 1) := by decide +kernel
theorem dX1_ranges_1 : decode cX1_ranges 1 = .ok (.istore_n 2, 1) := by decide +kernel
theorem dX1_ranges_2 : decode cX1_ranges 2 = .ok (.iconst 0, 1) := by decide +kernel
theorem dX1_ranges_3 : decode cX1_ranges 3 = .ok (.istore_n 3, 1) := by decide +kernel
theorem dX1_ranges_4 : decode cX1_ranges 4 = .ok (.iload_n 3, 1) := by decide +kernel
theorem dX1_ranges_5 : decode cX1_ranges 5 = .ok (.bipush 48, 2) := by decide +kernel
theorem dX1_ranges_7 : decode cX1_ranges 7 = .ok (.if_icmp .ge 26, 3) := by decide +kernel
theorem dX1_ranges_10 : decode cX1_ranges 10 = .ok (.iload_n 2, 1) := by decide +kernel
theorem dX1_ranges_11 : decode cX1_ranges 11 = .ok (.aload_n 0, 1) := by decide +kernel
theorem dX1_ranges_12 : decode cX1_ranges 12 = .ok (.iload_n 3, 1) := by decide +kernel
theorem dX1_ranges_13 : decode cX1_ranges 13 = .ok (.iload_n 1, 1) := by decide +kernel
theorem dX1_ranges_14 : decode cX1_ranges 14 = .ok (.invokevirtual 146, 3) := by decide +kernel
theorem dX1_ranges_17 : decode cX1_ranges 17 = .ok (.ifCond .eq 7, 3) := by decide +kernel
theorem dX1_ranges_20 : decode cX1_ranges 20 = .ok (.iconst 1, 1) := by decide +kernel
theorem dX1_ranges_21 : decode cX1_ranges 21 = .ok (.goto 4, 3) := by decide +kernel
theorem dX1_ranges_24 : decode cX1_ranges 24 = .ok (.iconst 0, 1) := by decide +kernel
theorem dX1_ranges_25 : decode cX1_ranges 25 = .ok (.iadd, 1) := by decide +kernel
theorem dX1_ranges_26 : decode cX1_ranges 26 = .ok (.istore_n 2, 1) := by decide +kernel
theorem dX1_ranges_27 : decode cX1_ranges 27 = .ok (.iinc 3 1, 3) := by decide +kernel
theorem dX1_ranges_30 : decode cX1_ranges 30 = .ok (.goto (-26), 3) := by decide +kernel
theorem dX1_ranges_33 : decode cX1_ranges 33 = .ok (.iload_n 2, 1) := by decide +kernel
theorem dX1_ranges_34 : decode cX1_ranges 34 = .ok (.ireturn, 1) := by decide +kernel
theorem dX1_lengthOfRange_0 : decode cX1_lengthOfRange 0 = .ok (.iconst 1, 1) := by decide +kernel
theorem dX1_lengthOfRange_1 : decode cX1_lengthOfRange 1 = .ok (.istore_n 2, 1) := by decide +kernel
theorem dX1_lengthOfRange_2 : decode cX1_lengthOfRange 2 = .ok (.iload_n 1, 1) := by decide +kernel
theorem dX1_lengthOfRange_3 : decode cX1_lengthOfRange 3 = .ok (.iload_n 2, 1) := by decide +kernel
theorem dX1_lengthOfRange_4 : decode cX1_lengthOfRange 4 = .ok (.iadd, 1) := by decide +kernel
theorem dX1_lengthOfRange_5 : decode cX1_lengthOfRange 5 = .ok (.bipush 48, 2) := by decide +kernel
theorem dX1_lengthOfRange_7 : decode cX1_lengthOfRange 7 = .ok (.if_icmp .ge 24, 3) := by decide +kernel
theorem dX1_lengthOfRange_10 : decode cX1_lengthOfRange 10 = .ok (.aload_n 0, 1) := by decide +kernel
theorem dX1_lengthOfRange_11 : decode cX1_lengthOfRange 11 = .ok (.iload_n 1, 1) := by decide +kernel
theorem dX1_lengthOfRange_12 : decode cX1_lengthOfRange 12 = .ok (.iload_n 2, 1) := by decide +kernel
theorem dX1_lengthOfRange_13 : decode cX1_lengthOfRange 13 = .ok (.iadd, 1) := by decide +kernel
theorem dX1_lengthOfRange_14 : decode cX1_lengthOfRange 14 = .ok (.invokevirtual 37, 3) := by decide +kernel
theorem dX1_lengthOfRange_17 : decode cX1_lengthOfRange 17 = .ok (.aload_n 0, 1) := by decide +kernel
theorem dX1_lengthOfRange_18 : decode cX1_lengthOfRange 18 = .ok (.iload_n 1, 1) := by decide +kernel
theorem dX1_lengthOfRange_19 : decode cX1_lengthOfRange 19 = .ok (.invokevirtual 37, 3) := by decide +kernel
theorem dX1_lengthOfRange_22 : decode cX1_lengthOfRange 22 = .ok (.if_icmp .ne 9, 3) := by decide +kernel
theorem dX1_lengthOfRange_25 : decode cX1_lengthOfRange 25 = .ok (.iinc 2 1, 3) := by decide +kernel
theorem dX1_lengthOfRange_28 : decode cX1_lengthOfRange 28 = .ok (.goto (-26), 3) := by decide +kernel
theorem dX1_lengthOfRange_31 : decode cX1_lengthOfRange 31 = .ok (.iload_n 2, 1) := by decide +kernel
theorem dX1_lengthOfRange_32 : decode cX1_lengthOfRange 32 = .ok (.ireturn, 1) := by decide +kernel
theorem dX1_range_0 : decode cX1_range 0 = .ok (.iload_n 1, 1) := by decide +kernel
theorem dX1_range_1 : decode cX1_range 1 = .ok (.iconst 0, 1) := by decide +kernel
theorem dX1_range_2 : decode cX1_range 2 = .ok (.bipush 47, 2) := by decide +kernel
theorem dX1_range_4 : decode cX1_range 4 = .ok (.invokestatic 33, 3) := by decide +kernel
theorem dX1_range_7 : decode cX1_range 7 = .ok (.ifCond .eq 12, 3) := by decide +kernel
theorem dX1_range_10 : decode cX1_range 10 = .ok (.iload_n 2, 1) := by decide +kernel
theorem dX1_range_11 : decode cX1_range 11 = .ok (.iconst 0, 1) := by decide +kernel
theorem dX1_range_12 : decode cX1_range 12 = .ok (.iconst 4, 1) := by decide +kernel
theorem dX1_range_13 : decode cX1_range 13 = .ok (.invokestatic 33, 3) := by decide +kernel
theorem dX1_range_16 : decode cX1_range 16 = .ok (.ifCond .ne 6, 3) := by decide +kernel
theorem dX1_range_19 : decode cX1_range 19 = .ok (.bipush (-2), 2) := by decide +kernel
theorem dX1_range_21 : decode cX1_range 21 = .ok (.ireturn, 1) := by decide +kernel
theorem dX1_range_22 : decode cX1_range 22 = .ok (.iconst 0, 1) := by decide +kernel
theorem dX1_range_23 : decode cX1_range 23 = .ok (.istore_n 3, 1) := by decide +kernel
theorem dX1_range_24 : decode cX1_range 24 = .ok (.iconst 0, 1) := by decide +kernel
theorem dX1_range_25 : decode cX1_range 25 = .ok (.istore 4, 2) := by decide +kernel
theorem dX1_range_27 : decode cX1_range 27 = .ok (.iload 4, 2) := by decide +kernel
theorem dX1_range_29 : decode cX1_range 29 = .ok (.bipush 48, 2) := by decide +kernel
theorem dX1_range_31 : decode cX1_range 31 = .ok (.if_icmp .ge 71, 3) := by decide +kernel
theorem dX1_range_34 : decode cX1_range 34 = .ok (.aload_n 0, 1) := by decide +kernel
theorem dX1_range_35 : decode cX1_range 35 = .ok (.iload 4, 2) := by decide +kernel
theorem dX1_range_37 : decode cX1_range 37 = .ok (.iload_n 2, 1) := by decide +kernel
theorem dX1_range_38 : decode cX1_range 38 = .ok (.iconst 1, 1) := by decide +kernel
theorem dX1_range_39 : decode cX1_range 39 = .ok (.if_icmp .le 7, 3) := by decide +kernel
theorem dX1_range_42 : decode cX1_range 42 = .ok (.iconst 1, 1) := by decide +kernel
theorem dX1_range_43 : decode cX1_range 43 = .ok (.goto 4, 3) := by decide +kernel
theorem dX1_range_46 : decode cX1_range 46 = .ok (.iconst 0, 1) := by decide +kernel
theorem dX1_range_47 : decode cX1_range 47 = .ok (.invokevirtual 146, 3) := by decide +kernel
theorem dX1_range_50 : decode cX1_range 50 = .ok (.ifCond .eq 46, 3) := by decide +kernel
theorem dX1_range_53 : decode cX1_range 53 = .ok (.iload_n 3, 1) := by decide +kernel
theorem dX1_range_54 : decode cX1_range 54 = .ok (.iload_n 1, 1) := by decide +kernel
theorem dX1_range_55 : decode cX1_range 55 = .ok (.if_icmp .ne 38, 3) := by decide +kernel
theorem dX1_range_58 : decode cX1_range 58 = .ok (.iload_n 2, 1) := by decide +kernel
theorem dX1_range_59 : decode cX1_range 59 = .ok (.ifCond .eq 8, 3) := by decide +kernel
theorem dX1_range_62 : decode cX1_range 62 = .ok (.iload_n 2, 1) := by decide +kernel
theorem dX1_range_63 : decode cX1_range 63 = .ok (.iconst 2, 1) := by decide +kernel
theorem dX1_range_64 : decode cX1_range 64 = .ok (.if_icmp .ne 8, 3) := by decide +kernel
theorem dX1_range_67 : decode cX1_range 67 = .ok (.iload 4, 2) := by decide +kernel
theorem dX1_range_69 : decode cX1_range 69 = .ok (.goto 23, 3) := by decide +kernel
theorem dX1_range_72 : decode cX1_range 72 = .ok (.iload_n 2, 1) := by decide +kernel
theorem dX1_range_73 : decode cX1_range 73 = .ok (.iconst 4, 1) := by decide +kernel
theorem dX1_range_74 : decode cX1_range 74 = .ok (.if_icmp .ne 12, 3) := by decide +kernel
theorem dX1_range_77 : decode cX1_range 77 = .ok (.aload_n 0, 1) := by decide +kernel
theorem dX1_range_78 : decode cX1_range 78 = .ok (.iload 4, 2) := by decide +kernel
theorem dX1_range_80 : decode cX1_range 80 = .ok (.invokevirtual 37, 3) := by decide +kernel
theorem dX1_range_83 : decode cX1_range 83 = .ok (.goto 9, 3) := by decide +kernel
theorem dX1_range_86 : decode cX1_range 86 = .ok (.aload_n 0, 1) := by decide +kernel
theorem dX1_range_87 : decode cX1_range 87 = .ok (.iload 4, 2) := by decide +kernel
theorem dX1_range_89 : decode cX1_range 89 = .ok (.invokevirtual 150, 3) := by decide +kernel
theorem dX1_range_92 : decode cX1_range 92 = .ok (.ireturn, 1) := by decide +kernel
theorem dX1_range_93 : decode cX1_range 93 = .ok (.iinc 3 1, 3) := by decide +kernel
theorem dX1_range_96 : decode cX1_range 96 = .ok (.iinc 4 1, 3) := by decide +kernel
theorem dX1_range_99 : decode cX1_range 99 = .ok (.goto (-72), 3) := by decide +kernel
theorem dX1_range_102 : decode cX1_range 102 = .ok (.bipush (-9), 2) := by decide +kernel
theorem dX1_range_104 : decode cX1_range 104 = .ok (.ireturn, 1) := by decide +kernel
theorem dX1_manyWith_0 : decode cX1_manyWith 0 = .ok (.iconst 0, 1) := by decide +kernel
theorem dX1_manyWith_1 : decode cX1_manyWith 1 = .ok (.istore_n 3, 1) := by decide +kernel
theorem dX1_manyWith_2 : decode cX1_manyWith 2 = .ok (.iconst 0, 1) := by decide +kernel
theorem dX1_manyWith_3 : decode cX1_manyWith 3 = .ok (.istore 4, 2) := by decide +kernel
theorem dX1_manyWith_5 : decode cX1_manyWith 5 = .ok (.iload 4, 2) := by decide +kernel
theorem dX1_manyWith_7 : decode cX1_manyWith 7 = .ok (.bipush 48, 2) := by decide +kernel
theorem dX1_manyWith_9 : decode cX1_manyWith 9 = .ok (.if_icmp .ge 31, 3) := by decide +kernel
theorem dX1_manyWith_12 : decode cX1_manyWith 12 = .ok (.iload_n 3, 1) := by decide +kernel
theorem dX1_manyWith_13 : decode cX1_manyWith 13 = .ok (.aload_n 0, 1) := by decide +kernel
theorem dX1_manyWith_14 : decode cX1_manyWith 14 = .ok (.iload 4, 2) := by decide +kernel
theorem dX1_manyWith_16 : decode cX1_manyWith 16 = .ok (.invokevirtual 37, 3) := by decide +kernel
theorem dX1_manyWith_19 : decode cX1_manyWith 19 = .ok (.iload_n 1, 1) := by decide +kernel
theorem dX1_manyWith_20 : decode cX1_manyWith 20 = .ok (.iload_n 2, 1) := by decide +kernel
theorem dX1_manyWith_21 : decode cX1_manyWith 21 = .ok (.invokestatic 33, 3) := by decide +kernel
theorem dX1_manyWith_24 : decode cX1_manyWith 24 = .ok (.ifCond .eq 7, 3) := by decide +kernel
theorem dX1_manyWith_27 : decode cX1_manyWith 27 = .ok (.iconst 1, 1) := by decide +kernel
theorem dX1_manyWith_28 : decode cX1_manyWith 28 = .ok (.goto 4, 3) := by decide +kernel
theorem dX1_manyWith_31 : decode cX1_manyWith 31 = .ok (.iconst 0, 1) := by decide +kernel
theorem dX1_manyWith_32 : decode cX1_manyWith 32 = .ok (.iadd, 1) := by decide +kernel
theorem dX1_manyWith_33 : decode cX1_manyWith 33 = .ok (.istore_n 3, 1) := by decide +kernel
theorem dX1_manyWith_34 : decode cX1_manyWith 34 = .ok (.iinc 4 1, 3) := by decide +kernel
theorem dX1_manyWith_37 : decode cX1_manyWith 37 = .ok (.goto (-32), 3) := by decide +kernel
theorem dX1_manyWith_40 : decode cX1_manyWith 40 = .ok (.iload_n 3, 1) := by decide +kernel
theorem dX1_manyWith_41 : decode cX1_manyWith 41 = .ok (.ireturn, 1) := by decide +kernel
theorem dX1_many_0 : decode cX1_many 0 = .ok (.iload_n 1, 1) := by decide +kernel
theorem dX1_many_1 : decode cX1_many 1 = .ok (.tableswitch 100 0 5 #[39, 46, 54, 60, 66, 79], 39) := by decide +kernel
theorem dX1_many_40 : decode cX1_many 40 = .ok (.aload_n 0, 1) := by decide +kernel
theorem dX1_many_41 : decode cX1_many 41 = .ok (.iconst 0, 1) := by decide +kernel
theorem dX1_many_42 : decode cX1_many 42 = .ok (.iconst 0, 1) := by decide +kernel
theorem dX1_many_43 : decode cX1_many 43 = .ok (.invokevirtual 153, 3) := by decide +kernel
theorem dX1_many_46 : decode cX1_many 46 = .ok (.ireturn, 1) := by decide +kernel
theorem dX1_many_47 : decode cX1_many 47 = .ok (.aload_n 0, 1) := by decide +kernel
theorem dX1_many_48 : decode cX1_many 48 = .ok (.iconst 2, 1) := by decide +kernel
theorem dX1_many_49 : decode cX1_many 49 = .ok (.bipush 96, 2) := by decide +kernel
theorem dX1_many_51 : decode cX1_many 51 = .ok (.invokevirtual 153, 3) := by decide +kernel
theorem dX1_many_54 : decode cX1_many 54 = .ok (.ireturn, 1) := by decide +kernel
theorem dX1_many_55 : decode cX1_many 55 = .ok (.aload_n 0, 1) := by decide +kernel
theorem dX1_many_56 : decode cX1_many 56 = .ok (.iconst 0, 1) := by decide +kernel
theorem dX1_many_57 : decode cX1_many 57 = .ok (.invokevirtual 156, 3) := by decide +kernel
theorem dX1_many_60 : decode cX1_many 60 = .ok (.ireturn, 1) := by decide +kernel
theorem dX1_many_61 : decode cX1_many 61 = .ok (.aload_n 0, 1) := by decide +kernel
theorem dX1_many_62 : decode cX1_many 62 = .ok (.iconst 1, 1) := by decide +kernel
theorem dX1_many_63 : decode cX1_many 63 = .ok (.invokevirtual 156, 3) := by decide +kernel
theorem dX1_many_66 : decode cX1_many 66 = .ok (.ireturn, 1) := by decide +kernel
theorem dX1_many_67 : decode cX1_many 67 = .ok (.aload_n 0, 1) := by decide +kernel
theorem dX1_many_68 : decode cX1_many 68 = .ok (.getfield 74, 3) := by decide +kernel
theorem dX1_many_71 : decode cX1_many 71 = .ok (.ifCond .eq 7, 3) := by decide +kernel
theorem dX1_many_74 : decode cX1_many 74 = .ok (.iconst 1, 1) := by decide +kernel
theorem dX1_many_75 : decode cX1_many 75 = .ok (.goto 4, 3) := by decide +kernel
theorem dX1_many_78 : decode cX1_many 78 = .ok (.iconst 0, 1) := by decide +kernel
theorem dX1_many_79 : decode cX1_many 79 = .ok (.ireturn, 1) := by decide +kernel
theorem dX1_many_80 : decode cX1_many 80 = .ok (.aload_n 0, 1) := by decide +kernel
theorem dX1_many_81 : decode cX1_many 81 = .ok (.getfield 74, 3) := by decide +kernel
theorem dX1_many_84 : decode cX1_many 84 = .ok (.ifCond .eq 15, 3) := by decide +kernel
theorem dX1_many_87 : decode cX1_many 87 = .ok (.aload_n 0, 1) := by decide +kernel
theorem dX1_many_88 : decode cX1_many 88 = .ok (.getfield 120, 3) := by decide +kernel
theorem dX1_many_91 : decode cX1_many 91 = .ok (.aload_n 0, 1) := by decide +kernel
theorem dX1_many_92 : decode cX1_many 92 = .ok (.getfield 123, 3) := by decide +kernel
theorem dX1_many_95 : decode cX1_many 95 = .ok (.isub, 1) := by decide +kernel
theorem dX1_many_96 : decode cX1_many 96 = .ok (.goto 4, 3) := by decide +kernel
theorem dX1_many_99 : decode cX1_many 99 = .ok (.iconst 0, 1) := by decide +kernel
theorem dX1_many_100 : decode cX1_many 100 = .ok (.ireturn, 1) := by decide +kernel
theorem dX1_many_101 : decode cX1_many 101 = .ok (.bipush (-2), 2) := by decide +kernel
theorem dX1_many_103 : decode cX1_many 103 = .ok (.ireturn, 1) := by decide +kernel
