theorem dX7_sheet_33 : decode cX7_sheet 33 = .ok (.invokevirtual 224, 3) := by decide +kernel
theorem dX7_sheet_36 : decode cX7_sheet 36 = .ok (.iconst 0, 1) := by decide +kernel
theorem dX7_sheet_37 : decode cX7_sheet 37 = .ok (.ireturn, 1) := by decide +kernel
theorem dX7_sheet_38 : decode cX7_sheet 38 = .ok (.iload_n 3, 1) := by decide +kernel
theorem dX7_sheet_39 : decode cX7_sheet 39 = .ok (.bipush 24, 2) := by decide +kernel
theorem dX7_sheet_41 : decode cX7_sheet 41 = .ok (.if_icmp .le 6, 3) := by decide +kernel
theorem dX7_sheet_44 : decode cX7_sheet 44 = .ok (.ldc 74, 2) := by decide +kernel
theorem dX7_sheet_46 : decode cX7_sheet 46 = .ok (.ireturn, 1) := by decide +kernel
theorem dX7_sheet_47 : decode cX7_sheet 47 = .ok (.iload_n 3, 1) := by decide +kernel
theorem dX7_sheet_48 : decode cX7_sheet 48 = .ok (.ifCond .ge 6, 3) := by decide +kernel
theorem dX7_sheet_51 : decode cX7_sheet 51 = .ok (.ldc 227, 2) := by decide +kernel
theorem dX7_sheet_53 : decode cX7_sheet 53 = .ok (.ireturn, 1) := by decide +kernel
theorem dX7_sheet_54 : decode cX7_sheet 54 = .ok (.aload_n 0, 1) := by decide +kernel
theorem dX7_sheet_55 : decode cX7_sheet 55 = .ok (.getfield 37, 3) := by decide +kernel
theorem dX7_sheet_58 : decode cX7_sheet 58 = .ok (.iload_n 1, 1) := by decide +kernel
theorem dX7_sheet_59 : decode cX7_sheet 59 = .ok (.aaload, 1) := by decide +kernel
theorem dX7_sheet_60 : decode cX7_sheet 60 = .ok (.iload_n 2, 1) := by decide +kernel
theorem dX7_sheet_61 : decode cX7_sheet 61 = .ok (.iload_n 3, 1) := by decide +kernel
theorem dX7_sheet_62 : decode cX7_sheet 62 = .ok (.invokevirtual 224, 3) := by decide +kernel
theorem dX7_sheet_65 : decode cX7_sheet 65 = .ok (.iload_n 3, 1) := by decide +kernel
theorem dX7_sheet_66 : decode cX7_sheet 66 = .ok (.ireturn, 1) := by decide +kernel
theorem dX7_mark_0 : decode cX7_mark 0 = .ok (.iload_n 1, 1) := by decide +kernel
theorem dX7_mark_1 : decode cX7_mark 1 = .ok (.invokestatic 174, 3) := by decide +kernel
theorem dX7_mark_4 : decode cX7_mark 4 = .ok (.ifCond .ne 6, 3) := by decide +kernel
theorem dX7_mark_7 : decode cX7_mark 7 = .ok (.ldc 74, 2) := by decide +kernel
theorem dX7_mark_9 : decode cX7_mark 9 = .ok (.ireturn, 1) := by decide +kernel
theorem dX7_mark_10 : decode cX7_mark 10 = .ok (.aload_n 0, 1) := by decide +kernel
theorem dX7_mark_11 : decode cX7_mark 11 = .ok (.getfield 37, 3) := by decide +kernel
theorem dX7_mark_14 : decode cX7_mark 14 = .ok (.iload_n 1, 1) := by decide +kernel
theorem dX7_mark_15 : decode cX7_mark 15 = .ok (.aaload, 1) := by decide +kernel
theorem dX7_mark_16 : decode cX7_mark 16 = .ok (.astore 4, 2) := by decide +kernel
theorem dX7_mark_18 : decode cX7_mark 18 = .ok (.aload 4, 2) := by decide +kernel
theorem dX7_mark_20 : decode cX7_mark 20 = .ok (.invokevirtual 177, 3) := by decide +kernel
theorem dX7_mark_23 : decode cX7_mark 23 = .ok (.ifCond .eq 6, 3) := by decide +kernel
theorem dX7_mark_26 : decode cX7_mark 26 = .ok (.ldc 181, 2) := by decide +kernel
theorem dX7_mark_28 : decode cX7_mark 28 = .ok (.ireturn, 1) := by decide +kernel
theorem dX7_mark_29 : decode cX7_mark 29 = .ok (.aload 4, 2) := by decide +kernel
theorem dX7_mark_31 : decode cX7_mark 31 = .ok (.iload_n 2, 1) := by decide +kernel
theorem dX7_mark_32 : decode cX7_mark 32 = .ok (.invokevirtual 228, 3) := by decide +kernel
theorem dX7_mark_35 : decode cX7_mark 35 = .ok (.ifCond .ne 6, 3) := by decide +kernel
theorem dX7_mark_38 : decode cX7_mark 38 = .ok (.ldc 231, 2) := by decide +kernel
theorem dX7_mark_40 : decode cX7_mark 40 = .ok (.ireturn, 1) := by decide +kernel
theorem dX7_mark_41 : decode cX7_mark 41 = .ok (.aload 4, 2) := by decide +kernel
theorem dX7_mark_43 : decode cX7_mark 43 = .ok (.getfield 232, 3) := by decide +kernel
theorem dX7_mark_46 : decode cX7_mark 46 = .ok (.ifCond .ne 23, 3) := by decide +kernel
theorem dX7_mark_49 : decode cX7_mark 49 = .ok (.iload_n 3, 1) := by decide +kernel
theorem dX7_mark_50 : decode cX7_mark 50 = .ok (.ldc 160, 2) := by decide +kernel
theorem dX7_mark_52 : decode cX7_mark 52 = .ok (.if_icmp .ne 6, 3) := by decide +kernel
theorem dX7_mark_55 : decode cX7_mark 55 = .ok (.ldc 109, 2) := by decide +kernel
theorem dX7_mark_57 : decode cX7_mark 57 = .ok (.ireturn, 1) := by decide +kernel
theorem dX7_mark_58 : decode cX7_mark 58 = .ok (.aload 4, 2) := by decide +kernel
theorem dX7_mark_60 : decode cX7_mark 60 = .ok (.getfield 235, 3) := by decide +kernel
theorem dX7_mark_63 : decode cX7_mark 63 = .ok (.iload_n 2, 1) := by decide +kernel
theorem dX7_mark_64 : decode cX7_mark 64 = .ok (.iload_n 3, 1) := by decide +kernel
theorem dX7_mark_65 : decode cX7_mark 65 = .ok (.i2s, 1) := by decide +kernel
theorem dX7_mark_66 : decode cX7_mark 66 = .ok (.iastore, 1) := by decide +kernel
theorem dX7_mark_67 : decode cX7_mark 67 = .ok (.iconst 1, 1) := by decide +kernel
theorem dX7_mark_68 : decode cX7_mark 68 = .ok (.ireturn, 1) := by decide +kernel
theorem dX7_mark_69 : decode cX7_mark 69 = .ok (.iload_n 3, 1) := by decide +kernel
theorem dX7_mark_70 : decode cX7_mark 70 = .ok (.ldc 160, 2) := by decide +kernel
theorem dX7_mark_72 : decode cX7_mark 72 = .ok (.if_icmp .eq 18, 3) := by decide +kernel
theorem dX7_mark_75 : decode cX7_mark 75 = .ok (.iload_n 3, 1) := by decide +kernel
theorem dX7_mark_76 : decode cX7_mark 76 = .ok (.ldc 238, 2) := by decide +kernel
theorem dX7_mark_78 : decode cX7_mark 78 = .ok (.if_icmp .lt 9, 3) := by decide +kernel
theorem dX7_mark_81 : decode cX7_mark 81 = .ok (.iload_n 3, 1) := by decide +kernel
theorem dX7_mark_82 : decode cX7_mark 82 = .ok (.ldc 239, 2) := by decide +kernel
theorem dX7_mark_84 : decode cX7_mark 84 = .ok (.if_icmp .le 6, 3) := by decide +kernel
theorem dX7_mark_87 : decode cX7_mark 87 = .ok (.ldc 74, 2) := by decide +kernel
theorem dX7_mark_89 : decode cX7_mark 89 = .ok (.ireturn, 1) := by decide +kernel
theorem dX7_mark_90 : decode cX7_mark 90 = .ok (.aload 4, 2) := by decide +kernel
theorem dX7_mark_92 : decode cX7_mark 92 = .ok (.getfield 235, 3) := by decide +kernel
theorem dX7_mark_95 : decode cX7_mark 95 = .ok (.iload_n 2, 1) := by decide +kernel
theorem dX7_mark_96 : decode cX7_mark 96 = .ok (.iload_n 3, 1) := by decide +kernel
theorem dX7_mark_97 : decode cX7_mark 97 = .ok (.iastore, 1) := by decide +kernel
theorem dX7_mark_98 : decode cX7_mark 98 = .ok (.iconst 1, 1) := by decide +kernel
theorem dX7_mark_99 : decode cX7_mark 99 = .ok (.ireturn, 1) := by decide +kernel
theorem dX7_pour_0 : decode cX7_pour 0 = .ok (.iload_n 1, 1) := by decide +kernel
theorem dX7_pour_1 : decode cX7_pour 1 = .ok (.invokestatic 174, 3) := by decide +kernel
theorem dX7_pour_4 : decode cX7_pour 4 = .ok (.ifCond .ne 6, 3) := by decide +kernel
theorem dX7_pour_7 : decode cX7_pour 7 = .ok (.ldc 74, 2) := by decide +kernel
theorem dX7_pour_9 : decode cX7_pour 9 = .ok (.ireturn, 1) := by decide +kernel
theorem dX7_pour_10 : decode cX7_pour 10 = .ok (.aload_n 0, 1) := by decide +kernel
theorem dX7_pour_11 : decode cX7_pour 11 = .ok (.getfield 37, 3) := by decide +kernel
theorem dX7_pour_14 : decode cX7_pour 14 = .ok (.iload_n 1, 1) := by decide +kernel
theorem dX7_pour_15 : decode cX7_pour 15 = .ok (.aaload, 1) := by decide +kernel
theorem dX7_pour_16 : decode cX7_pour 16 = .ok (.astore_n 2, 1) := by decide +kernel
theorem dX7_pour_17 : decode cX7_pour 17 = .ok (.aload_n 2, 1) := by decide +kernel
theorem dX7_pour_18 : decode cX7_pour 18 = .ok (.invokevirtual 177, 3) := by decide +kernel
theorem dX7_pour_21 : decode cX7_pour 21 = .ok (.ifCond .eq 6, 3) := by decide +kernel
theorem dX7_pour_24 : decode cX7_pour 24 = .ok (.ldc 181, 2) := by decide +kernel
theorem dX7_pour_26 : decode cX7_pour 26 = .ok (.ireturn, 1) := by decide +kernel
theorem dX7_pour_27 : decode cX7_pour 27 = .ok (.iconst 0, 1) := by decide +kernel
theorem dX7_pour_28 : decode cX7_pour 28 = .ok (.istore_n 3, 1) := by decide +kernel
theorem dX7_pour_29 : decode cX7_pour 29 = .ok (.iconst 0, 1) := by decide +kernel
theorem dX7_pour_30 : decode cX7_pour 30 = .ok (.istore 4, 2) := by decide +kernel
theorem dX7_pour_32 : decode cX7_pour 32 = .ok (.iload 4, 2) := by decide +kernel
theorem dX7_pour_34 : decode cX7_pour 34 = .ok (.aload_n 0, 1) := by decide +kernel
theorem dX7_pour_35 : decode cX7_pour 35 = .ok (.getfield 25, 3) := by decide +kernel
theorem dX7_pour_38 : decode cX7_pour 38 = .ok (.getfield 75, 3) := by decide +kernel
theorem dX7_pour_41 : decode cX7_pour 41 = .ok (.if_icmp .ge 72, 3) := by decide +kernel
theorem dX7_pour_44 : decode cX7_pour 44 = .ok (.aload_n 2, 1) := by decide +kernel
theorem dX7_pour_45 : decode cX7_pour 45 = .ok (.iload 4, 2) := by decide +kernel
theorem dX7_pour_47 : decode cX7_pour 47 = .ok (.invokevirtual 240, 3) := by decide +kernel
theorem dX7_pour_50 : decode cX7_pour 50 = .ok (.ifCond .eq 57, 3) := by decide +kernel
theorem dX7_pour_53 : decode cX7_pour 53 = .ok (.iconst 1, 1) := by decide +kernel
theorem dX7_pour_54 : decode cX7_pour 54 = .ok (.bipush 99, 2) := by decide +kernel
theorem dX7_pour_56 : decode cX7_pour 56 = .ok (.aload_n 2, 1) := by decide +kernel
theorem dX7_pour_57 : decode cX7_pour 57 = .ok (.getfield 235, 3) := by decide +kernel
theorem dX7_pour_60 : decode cX7_pour 60 = .ok (.iload 4, 2) := by decide +kernel
theorem dX7_pour_62 : decode cX7_pour 62 = .ok (.iaload, 1) := by decide +kernel
theorem dX7_pour_63 : decode cX7_pour 63 = .ok (.invokestatic 114, 3) := by decide +kernel
theorem dX7_pour_66 : decode cX7_pour 66 = .ok (.invokestatic 243, 3) := by decide +kernel
theorem dX7_pour_69 : decode cX7_pour 69 = .ok (.istore 5, 2) := by decide +kernel
theorem dX7_pour_71 : decode cX7_pour 71 = .ok (.iload 5, 2) := by decide +kernel
theorem dX7_pour_73 : decode cX7_pour 73 = .ok (.aload_n 0, 1) := by decide +kernel
theorem dX7_pour_74 : decode cX7_pour 74 = .ok (.getfield 25, 3) := by decide +kernel
theorem dX7_pour_77 : decode cX7_pour 77 = .ok (.getfield 86, 3) := by decide +kernel
theorem dX7_pour_80 : decode cX7_pour 80 = .ok (.iload 4, 2) := by decide +kernel
theorem dX7_pour_82 : decode cX7_pour 82 = .ok (.aaload, 1) := by decide +kernel
theorem dX7_pour_83 : decode cX7_pour 83 = .ok (.getfield 106, 3) := by decide +kernel
theorem dX7_pour_86 : decode cX7_pour 86 = .ok (.if_icmp .eq 6, 3) := by decide +kernel
theorem dX7_pour_89 : decode cX7_pour 89 = .ok (.iinc 3 1, 3) := by decide +kernel
theorem dX7_pour_92 : decode cX7_pour 92 = .ok (.aload_n 0, 1) := by decide +kernel
theorem dX7_pour_93 : decode cX7_pour 93 = .ok (.getfield 25, 3) := by decide +kernel
theorem dX7_pour_96 : decode cX7_pour 96 = .ok (.getfield 86, 3) := by decide +kernel
theorem dX7_pour_99 : decode cX7_pour 99 = .ok (.iload 4, 2) := by decide +kernel
theorem dX7_pour_101 : decode cX7_pour 101 = .ok (.aaload, 1) := by decide +kernel
theorem dX7_pour_102 : decode cX7_pour 102 = .ok (.iload 5, 2) := by decide +kernel
theorem dX7_pour_104 : decode cX7_pour 104 = .ok (.putfield 106, 3) := by decide +kernel
theorem dX7_pour_107 : decode cX7_pour 107 = .ok (.iinc 4 1, 3) := by decide +kernel
theorem dX7_pour_110 : decode cX7_pour 110 = .ok (.goto (-78), 3) := by decide +kernel
theorem dX7_pour_113 : decode cX7_pour 113 = .ok (.iload_n 3, 1) := by decide +kernel
theorem dX7_pour_114 : decode cX7_pour 114 = .ok (.ireturn, 1) := by decide +kernel
theorem dX7_reads_0 : decode cX7_reads 0 = .ok (.iload_n 1, 1) := by decide +kernel
theorem dX7_reads_1 : decode cX7_reads 1 = .ok (.invokestatic 174, 3) := by decide +kernel
theorem dX7_reads_4 : decode cX7_reads 4 = .ok (.ifCond .ne 6, 3) := by decide +kernel
theorem dX7_reads_7 : decode cX7_reads 7 = .ok (.ldc 74, 2) := by decide +kernel
theorem dX7_reads_9 : decode cX7_reads 9 = .ok (.ireturn, 1) := by decide +kernel
theorem dX7_reads_10 : decode cX7_reads 10 = .ok (.aload_n 0, 1) := by decide +kernel
theorem dX7_reads_11 : decode cX7_reads 11 = .ok (.getfield 37, 3) := by decide +kernel
theorem dX7_reads_14 : decode cX7_reads 14 = .ok (.iload_n 1, 1) := by decide +kernel
theorem dX7_reads_15 : decode cX7_reads 15 = .ok (.aaload, 1) := by decide +kernel
theorem dX7_reads_16 : decode cX7_reads 16 = .ok (.astore_n 2, 1) := by decide +kernel
theorem dX7_reads_17 : decode cX7_reads 17 = .ok (.aload_n 2, 1) := by decide +kernel
theorem dX7_reads_18 : decode cX7_reads 18 = .ok (.invokevirtual 177, 3) := by decide +kernel
theorem dX7_reads_21 : decode cX7_reads 21 = .ok (.ifCond .eq 6, 3) := by decide +kernel
theorem dX7_reads_24 : decode cX7_reads 24 = .ok (.ldc 181, 2) := by decide +kernel
theorem dX7_reads_26 : decode cX7_reads 26 = .ok (.ireturn, 1) := by decide +kernel
theorem dX7_reads_27 : decode cX7_reads 27 = .ok (.iconst 0, 1) := by decide +kernel
theorem dX7_reads_28 : decode cX7_reads 28 = .ok (.istore_n 3, 1) := by decide +kernel
theorem dX7_reads_29 : decode cX7_reads 29 = .ok (.iload_n 3, 1) := by decide +kernel
theorem dX7_reads_30 : decode cX7_reads 30 = .ok (.aload_n 2, 1) := by decide +kernel
theorem dX7_reads_31 : decode cX7_reads 31 = .ok (.getfield 246, 3) := by decide +kernel
theorem dX7_reads_34 : decode cX7_reads 34 = .ok (.if_icmp .ge 48, 3) := by decide +kernel
theorem dX7_reads_37 : decode cX7_reads 37 = .ok (.aload_n 2, 1) := by decide +kernel
theorem dX7_reads_38 : decode cX7_reads 38 = .ok (.iload_n 3, 1) := by decide +kernel
theorem dX7_reads_39 : decode cX7_reads 39 = .ok (.invokevirtual 240, 3) := by decide +kernel
theorem dX7_reads_42 : decode cX7_reads 42 = .ok (.ifCond .eq 34, 3) := by decide +kernel
theorem dX7_reads_45 : decode cX7_reads 45 = .ok (.aload_n 0, 1) := by decide +kernel
theorem dX7_reads_46 : decode cX7_reads 46 = .ok (.iload_n 3, 1) := by decide +kernel
theorem dX7_reads_47 : decode cX7_reads 47 = .ok (.invokevirtual 83, 3) := by decide +kernel
theorem dX7_reads_50 : decode cX7_reads 50 = .ok (.ifCond .eq 24, 3) := by decide +kernel
theorem dX7_reads_53 : decode cX7_reads 53 = .ok (.aload_n 2, 1) := by decide +kernel
theorem dX7_reads_54 : decode cX7_reads 54 = .ok (.getfield 235, 3) := by decide +kernel
theorem dX7_reads_57 : decode cX7_reads 57 = .ok (.iload_n 3, 1) := by decide +kernel
theorem dX7_reads_58 : decode cX7_reads 58 = .ok (.iaload, 1) := by decide +kernel
theorem dX7_reads_59 : decode cX7_reads 59 = .ok (.aload_n 0, 1) := by decide +kernel
theorem dX7_reads_60 : decode cX7_reads 60 = .ok (.getfield 25, 3) := by decide +kernel
theorem dX7_reads_63 : decode cX7_reads 63 = .ok (.getfield 86, 3) := by decide +kernel
theorem dX7_reads_66 : decode cX7_reads 66 = .ok (.iload_n 3, 1) := by decide +kernel
theorem dX7_reads_67 : decode cX7_reads 67 = .ok (.aaload, 1) := by decide +kernel
theorem dX7_reads_68 : decode cX7_reads 68 = .ok (.getfield 165, 3) := by decide +kernel
theorem dX7_reads_71 : decode cX7_reads 71 = .ok (.if_icmp .eq 5, 3) := by decide +kernel
theorem dX7_reads_74 : decode cX7_reads 74 = .ok (.iload_n 3, 1) := by decide +kernel
theorem dX7_reads_75 : decode cX7_reads 75 = .ok (.ireturn, 1) := by decide +kernel
theorem dX7_reads_76 : decode cX7_reads 76 = .ok (.iinc 3 1, 3) := by decide +kernel
theorem dX7_reads_79 : decode cX7_reads 79 = .ok (.goto (-50), 3) := by decide +kernel
theorem dX7_reads_82 : decode cX7_reads 82 = .ok (.ldc 160, 2) := by decide +kernel
theorem dX7_reads_84 : decode cX7_reads 84 = .ok (.ireturn, 1) := by decide +kernel
theorem dX7_copy_0 : decode cX7_copy 0 = .ok (.iload_n 1, 1) := by decide +kernel
theorem dX7_copy_1 : decode cX7_copy 1 = .ok (.invokestatic 174, 3) := by decide +kernel
theorem dX7_copy_4 : decode cX7_copy 4 = .ok (.ifCond .eq 10, 3) := by decide +kernel
theorem dX7_copy_7 : decode cX7_copy 7 = .ok (.iload_n 3, 1) := by decide +kernel
theorem dX7_copy_8 : decode cX7_copy 8 = .ok (.invokestatic 174, 3) := by decide +kernel
theorem dX7_copy_11 : decode cX7_copy 11 = .ok (.ifCond .ne 6, 3) := by decide +kernel
theorem dX7_copy_14 : decode cX7_copy 14 = .ok (.ldc 74, 2) := by decide +kernel
theorem dX7_copy_16 : decode cX7_copy 16 = .ok (.ireturn, 1) := by decide +kernel
theorem dX7_copy_17 : decode cX7_copy 17 = .ok (.aload_n 0, 1) := by decide +kernel
theorem dX7_copy_18 : decode cX7_copy 18 = .ok (.getfield 37, 3) := by decide +kernel
theorem dX7_copy_21 : decode cX7_copy 21 = .ok (.iload_n 1, 1) := by decide +kernel
theorem dX7_copy_22 : decode cX7_copy 22 = .ok (.aaload, 1) := by decide +kernel
theorem dX7_copy_23 : decode cX7_copy 23 = .ok (.astore 6, 2) := by decide +kernel
theorem dX7_copy_25 : decode cX7_copy 25 = .ok (.aload_n 0, 1) := by decide +kernel
theorem dX7_copy_26 : decode cX7_copy 26 = .ok (.getfield 37, 3) := by decide +kernel
theorem dX7_copy_29 : decode cX7_copy 29 = .ok (.iload_n 3, 1) := by decide +kernel
theorem dX7_copy_30 : decode cX7_copy 30 = .ok (.aaload, 1) := by decide +kernel
theorem dX7_copy_31 : decode cX7_copy 31 = .ok (.astore 7, 2) := by decide +kernel
theorem dX7_copy_33 : decode cX7_copy 33 = .ok (.aload 6, 2) := by decide +kernel
theorem dX7_copy_35 : decode cX7_copy 35 = .ok (.invokevirtual 177, 3) := by decide +kernel
theorem dX7_copy_38 : decode cX7_copy 38 = .ok (.ifCond .ne 11, 3) := by decide +kernel
theorem dX7_copy_41 : decode cX7_copy 41 = .ok (.aload 7, 2) := by decide +kernel
theorem dX7_copy_43 : decode cX7_copy 43 = .ok (.invokevirtual 177, 3) := by decide +kernel
theorem dX7_copy_46 : decode cX7_copy 46 = .ok (.ifCond .eq 6, 3) := by decide +kernel
theorem dX7_copy_49 : decode cX7_copy 49 = .ok (.ldc 181, 2) := by decide +kernel
theorem dX7_copy_51 : decode cX7_copy 51 = .ok (.ireturn, 1) := by decide +kernel
theorem dX7_copy_52 : decode cX7_copy 52 = .ok (.aload 6, 2) := by decide +kernel
theorem dX7_copy_54 : decode cX7_copy 54 = .ok (.getfield 232, 3) := by decide +kernel
theorem dX7_copy_57 : decode cX7_copy 57 = .ok (.aload 7, 2) := by decide +kernel
theorem dX7_copy_59 : decode cX7_copy 59 = .ok (.getfield 232, 3) := by decide +kernel
theorem dX7_copy_62 : decode cX7_copy 62 = .ok (.if_icmp .eq 6, 3) := by decide +kernel
theorem dX7_copy_65 : decode cX7_copy 65 = .ok (.ldc 109, 2) := by decide +kernel
theorem dX7_copy_67 : decode cX7_copy 67 = .ok (.ireturn, 1) := by decide +kernel
theorem dX7_copy_68 : decode cX7_copy 68 = .ok (.aload 6, 2) := by decide +kernel
theorem dX7_copy_70 : decode cX7_copy 70 = .ok (.iload_n 2, 1) := by decide +kernel
theorem dX7_copy_71 : decode cX7_copy 71 = .ok (.iload 5, 2) := by decide +kernel
theorem dX7_copy_73 : decode cX7_copy 73 = .ok (.invokevirtual 247, 3) := by decide +kernel
theorem dX7_copy_76 : decode cX7_copy 76 = .ok (.ifCond .eq 15, 3) := by decide +kernel
theorem dX7_copy_79 : decode cX7_copy 79 = .ok (.aload 7, 2) := by decide +kernel
theorem dX7_copy_81 : decode cX7_copy 81 = .ok (.iload 4, 2) := by decide +kernel
theorem dX7_copy_83 : decode cX7_copy 83 = .ok (.iload 5, 2) := by decide +kernel
theorem dX7_copy_85 : decode cX7_copy 85 = .ok (.invokevirtual 247, 3) := by decide +kernel
theorem dX7_copy_88 : decode cX7_copy 88 = .ok (.ifCond .ne 6, 3) := by decide +kernel
theorem dX7_copy_91 : decode cX7_copy 91 = .ok (.ldc 231, 2) := by decide +kernel
theorem dX7_copy_93 : decode cX7_copy 93 = .ok (.ireturn, 1) := by decide +kernel
theorem dX7_copy_94 : decode cX7_copy 94 = .ok (.aload 6, 2) := by decide +kernel
theorem dX7_copy_96 : decode cX7_copy 96 = .ok (.getfield 235, 3) := by decide +kernel
theorem dX7_copy_99 : decode cX7_copy 99 = .ok (.iload_n 2, 1) := by decide +kernel
theorem dX7_copy_100 : decode cX7_copy 100 = .ok (.aload 7, 2) := by decide +kernel
theorem dX7_copy_102 : decode cX7_copy 102 = .ok (.getfield 235, 3) := by decide +kernel
theorem dX7_copy_105 : decode cX7_copy 105 = .ok (.iload 4, 2) := by decide +kernel
theorem dX7_copy_107 : decode cX7_copy 107 = .ok (.iload 5, 2) := by decide +kernel
theorem dX7_copy_109 : decode cX7_copy 109 = .ok (.invokestatic 250, 3) := by decide +kernel
theorem dX7_copy_112 : decode cX7_copy 112 = .ok (.iload 5, 2) := by decide +kernel
theorem dX7_copy_114 : decode cX7_copy 114 = .ok (.ireturn, 1) := by decide +kernel
theorem dX7_lay_0 : decode cX7_lay 0 = .ok (.iload_n 1, 1) := by decide +kernel
theorem dX7_lay_1 : decode cX7_lay 1 = .ok (.invokestatic 256, 3) := by decide +kernel
theorem dX7_lay_4 : decode cX7_lay 4 = .ok (.ifCond .eq 12, 3) := by decide +kernel
theorem dX7_lay_7 : decode cX7_lay 7 = .ok (.iload_n 2, 1) := by decide +kernel
theorem dX7_lay_8 : decode cX7_lay 8 = .ok (.ifCond .lt 8, 3) := by decide +kernel
theorem dX7_lay_11 : decode cX7_lay 11 = .ok (.iload_n 2, 1) := by decide +kernel
theorem dX7_lay_12 : decode cX7_lay 12 = .ok (.iconst 3, 1) := by decide +kernel
theorem dX7_lay_13 : decode cX7_lay 13 = .ok (.if_icmp .le 6, 3) := by decide +kernel
theorem dX7_lay_16 : decode cX7_lay 16 = .ok (.ldc 74, 2) := by decide +kernel
theorem dX7_lay_18 : decode cX7_lay 18 = .ok (.ireturn, 1) := by decide +kernel
theorem dX7_lay_19 : decode cX7_lay 19 = .ok (.iload_n 2, 1) := by decide +kernel
theorem dX7_lay_20 : decode cX7_lay 20 = .ok (.iconst 1, 1) := by decide +kernel
theorem dX7_lay_21 : decode cX7_lay 21 = .ok (.if_icmp .ne 11, 3) := by decide +kernel
theorem dX7_lay_24 : decode cX7_lay 24 = .ok (.aload_n 0, 1) := by decide +kernel
theorem dX7_lay_25 : decode cX7_lay 25 = .ok (.iload_n 3, 1) := by decide +kernel
theorem dX7_lay_26 : decode cX7_lay 26 = .ok (.invokevirtual 83, 3) := by decide +kernel
theorem dX7_lay_29 : decode cX7_lay 29 = .ok (.ifCond .eq 15, 3) := by decide +kernel
theorem dX7_lay_32 : decode cX7_lay 32 = .ok (.iload_n 2, 1) := by decide +kernel
theorem dX7_lay_33 : decode cX7_lay 33 = .ok (.iconst 2, 1) := by decide +kernel
theorem dX7_lay_34 : decode cX7_lay 34 = .ok (.if_icmp .ne 13, 3) := by decide +kernel
theorem dX7_lay_37 : decode cX7_lay 37 = .ok (.iload_n 3, 1) := by decide +kernel
theorem dX7_lay_38 : decode cX7_lay 38 = .ok (.invokestatic 174, 3) := by decide +kernel
theorem dX7_lay_41 : decode cX7_lay 41 = .ok (.ifCond .ne 6, 3) := by decide +kernel
theorem dX7_lay_44 : decode cX7_lay 44 = .ok (.ldc 74, 2) := by decide +kernel
theorem dX7_lay_46 : decode cX7_lay 46 = .ok (.ireturn, 1) := by decide +kernel
theorem dX7_lay_47 : decode cX7_lay 47 = .ok (.iload_n 2, 1) := by decide +kernel
theorem dX7_lay_48 : decode cX7_lay 48 = .ok (.iconst 2, 1) := by decide +kernel
theorem dX7_lay_49 : decode cX7_lay 49 = .ok (.if_icmp .ne 18, 3) := by decide +kernel
theorem dX7_lay_52 : decode cX7_lay 52 = .ok (.aload_n 0, 1) := by decide +kernel
theorem dX7_lay_53 : decode cX7_lay 53 = .ok (.getfield 37, 3) := by decide +kernel
theorem dX7_lay_56 : decode cX7_lay 56 = .ok (.iload_n 3, 1) := by decide +kernel
theorem dX7_lay_57 : decode cX7_lay 57 = .ok (.aaload, 1) := by decide +kernel
theorem dX7_lay_58 : decode cX7_lay 58 = .ok (.invokevirtual 177, 3) := by decide +kernel
theorem dX7_lay_61 : decode cX7_lay 61 = .ok (.ifCond .eq 6, 3) := by decide +kernel
theorem dX7_lay_64 : decode cX7_lay 64 = .ok (.ldc 181, 2) := by decide +kernel
theorem dX7_lay_66 : decode cX7_lay 66 = .ok (.ireturn, 1) := by decide +kernel
theorem dX7_lay_67 : decode cX7_lay 67 = .ok (.aload_n 0, 1) := by decide +kernel
theorem dX7_lay_68 : decode cX7_lay 68 = .ok (.getfield 43, 3) := by decide +kernel
theorem dX7_lay_71 : decode cX7_lay 71 = .ok (.iload_n 1, 1) := by decide +kernel
theorem dX7_lay_72 : decode cX7_lay 72 = .ok (.aaload, 1) := by decide +kernel
theorem dX7_lay_73 : decode cX7_lay 73 = .ok (.astore 4, 2) := by decide +kernel
theorem dX7_lay_75 : decode cX7_lay 75 = .ok (.aload 4, 2) := by decide +kernel
theorem dX7_lay_77 : decode cX7_lay 77 = .ok (.getfield 259, 3) := by decide +kernel
theorem dX7_lay_80 : decode cX7_lay 80 = .ok (.istore 5, 2) := by decide +kernel
theorem dX7_lay_82 : decode cX7_lay 82 = .ok (.aload 4, 2) := by decide +kernel
theorem dX7_lay_84 : decode cX7_lay 84 = .ok (.iload_n 2, 1) := by decide +kernel
theorem dX7_lay_85 : decode cX7_lay 85 = .ok (.putfield 259, 3) := by decide +kernel
theorem dX7_lay_88 : decode cX7_lay 88 = .ok (.iload_n 2, 1) := by decide +kernel
theorem dX7_lay_89 : decode cX7_lay 89 = .ok (.iconst 1, 1) := by decide +kernel
theorem dX7_lay_90 : decode cX7_lay 90 = .ok (.if_icmp .ne 23, 3) := by decide +kernel
theorem dX7_lay_93 : decode cX7_lay 93 = .ok (.aload 4, 2) := by decide +kernel
theorem dX7_lay_95 : decode cX7_lay 95 = .ok (.getfield 262, 3) := by decide +kernel
theorem dX7_lay_98 : decode cX7_lay 98 = .ok (.aload_n 0, 1) := by decide +kernel
theorem dX7_lay_99 : decode cX7_lay 99 = .ok (.getfield 25, 3) := by decide +kernel
theorem dX7_lay_102 : decode cX7_lay 102 = .ok (.getfield 86, 3) := by decide +kernel
theorem dX7_lay_105 : decode cX7_lay 105 = .ok (.iload_n 3, 1) := by decide +kernel
theorem dX7_lay_106 : decode cX7_lay 106 = .ok (.aaload, 1) := by decide +kernel
theorem dX7_lay_107 : decode cX7_lay 107 = .ok (.invokevirtual 266, 3) := by decide +kernel
theorem dX7_lay_110 : decode cX7_lay 110 = .ok (.goto 36, 3) := by decide +kernel
theorem dX7_lay_113 : decode cX7_lay 113 = .ok (.iload_n 2, 1) := by decide +kernel
theorem dX7_lay_114 : decode cX7_lay 114 = .ok (.iconst 2, 1) := by decide +kernel
theorem dX7_lay_115 : decode cX7_lay 115 = .ok (.if_icmp .ne 20, 3) := by decide +kernel
theorem dX7_lay_118 : decode cX7_lay 118 = .ok (.aload 4, 2) := by decide +kernel
theorem dX7_lay_120 : decode cX7_lay 120 = .ok (.getfield 269, 3) := by decide +kernel
theorem dX7_lay_123 : decode cX7_lay 123 = .ok (.aload_n 0, 1) := by decide +kernel
theorem dX7_lay_124 : decode cX7_lay 124 = .ok (.getfield 37, 3) := by decide +kernel
theorem dX7_lay_127 : decode cX7_lay 127 = .ok (.iload_n 3, 1) := by decide +kernel
theorem dX7_lay_128 : decode cX7_lay 128 = .ok (.aaload, 1) := by decide +kernel
theorem dX7_lay_129 : decode cX7_lay 129 = .ok (.invokevirtual 273, 3) := by decide +kernel
theorem dX7_lay_132 : decode cX7_lay 132 = .ok (.goto 14, 3) := by decide +kernel
theorem dX7_lay_135 : decode cX7_lay 135 = .ok (.iload_n 2, 1) := by decide +kernel
theorem dX7_lay_136 : decode cX7_lay 136 = .ok (.iconst 3, 1) := by decide +kernel
theorem dX7_lay_137 : decode cX7_lay 137 = .ok (.if_icmp .ne 9, 3) := by decide +kernel
theorem dX7_lay_140 : decode cX7_lay 140 = .ok (.aload 4, 2) := by decide +kernel
theorem dX7_lay_142 : decode cX7_lay 142 = .ok (.iload_n 3, 1) := by decide +kernel
theorem dX7_lay_143 : decode cX7_lay 143 = .ok (.putfield 276, 3) := by decide +kernel
theorem dX7_lay_146 : decode cX7_lay 146 = .ok (.iload 5, 2) := by decide +kernel
theorem dX7_lay_148 : decode cX7_lay 148 = .ok (.ireturn, 1) := by decide +kernel
theorem dX7_ask_0 : decode cX7_ask 0 = .ok (.iload_n 1, 1) := by decide +kernel
theorem dX7_ask_1 : decode cX7_ask 1 = .ok (.invokestatic 256, 3) := by decide +kernel
theorem dX7_ask_4 : decode cX7_ask 4 = .ok (.ifCond .eq 10, 3) := by decide +kernel
theorem dX7_ask_7 : decode cX7_ask 7 = .ok (.iload_n 2, 1) := by decide +kernel
theorem dX7_ask_8 : decode cX7_ask 8 = .ok (.invokestatic 64, 3) := by decide +kernel
theorem dX7_ask_11 : decode cX7_ask 11 = .ok (.ifCond .ne 6, 3) := by decide +kernel
theorem dX7_ask_14 : decode cX7_ask 14 = .ok (.ldc 74, 2) := by decide +kernel
theorem dX7_ask_16 : decode cX7_ask 16 = .ok (.ireturn, 1) := by decide +kernel
theorem dX7_ask_17 : decode cX7_ask 17 = .ok (.aload_n 0, 1) := by decide +kernel
theorem dX7_ask_18 : decode cX7_ask 18 = .ok (.getfield 43, 3) := by decide +kernel
theorem dX7_ask_21 : decode cX7_ask 21 = .ok (.iload_n 1, 1) := by decide +kernel
theorem dX7_ask_22 : decode cX7_ask 22 = .ok (.aaload, 1) := by decide +kernel
theorem dX7_ask_23 : decode cX7_ask 23 = .ok (.iconst 1, 1) := by decide +kernel
theorem dX7_ask_24 : decode cX7_ask 24 = .ok (.invokevirtual 277, 3) := by decide +kernel
theorem dX7_ask_27 : decode cX7_ask 27 = .ok (.istore_n 3, 1) := by decide +kernel
theorem dX7_ask_28 : decode cX7_ask 28 = .ok (.iload_n 3, 1) := by decide +kernel
theorem dX7_ask_29 : decode cX7_ask 29 = .ok (.ifCond .eq 5, 3) := by decide +kernel
theorem dX7_ask_32 : decode cX7_ask 32 = .ok (.iload_n 3, 1) := by decide +kernel
theorem dX7_ask_33 : decode cX7_ask 33 = .ok (.ireturn, 1) := by decide +kernel
theorem dX7_ask_34 : decode cX7_ask 34 = .ok (.aload_n 0, 1) := by decide +kernel
theorem dX7_ask_35 : decode cX7_ask 35 = .ok (.getfield 43, 3) := by decide +kernel
theorem dX7_ask_38 : decode cX7_ask 38 = .ok (.iload_n 1, 1) := by decide +kernel
theorem dX7_ask_39 : decode cX7_ask 39 = .ok (.aaload, 1) := by decide +kernel
theorem dX7_ask_40 : decode cX7_ask 40 = .ok (.getfield 262, 3) := by decide +kernel
theorem dX7_ask_43 : decode cX7_ask 43 = .ok (.astore 4, 2) := by decide +kernel
theorem dX7_ask_45 : decode cX7_ask 45 = .ok (.aload 4, 2) := by decide +kernel
theorem dX7_ask_47 : decode cX7_ask 47 = .ok (.getfield 98, 3) := by decide +kernel
theorem dX7_ask_50 : decode cX7_ask 50 = .ok (.iload_n 2, 1) := by decide +kernel
theorem dX7_ask_51 : decode cX7_ask 51 = .ok (.invokestatic 101, 3) := by decide +kernel
theorem dX7_ask_54 : decode cX7_ask 54 = .ok (.ifCond .eq 19, 3) := by decide +kernel
theorem dX7_ask_57 : decode cX7_ask 57 = .ok (.aload 4, 2) := by decide +kernel
theorem dX7_ask_59 : decode cX7_ask 59 = .ok (.getfield 98, 3) := by decide +kernel
theorem dX7_ask_62 : decode cX7_ask 62 = .ok (.aload 4, 2) := by decide +kernel
theorem dX7_ask_64 : decode cX7_ask 64 = .ok (.getfield 106, 3) := by decide +kernel
theorem dX7_ask_67 : decode cX7_ask 67 = .ok (.invokestatic 280, 3) := by decide +kernel
theorem dX7_ask_70 : decode cX7_ask 70 = .ok (.goto 5, 3) := by decide +kernel
theorem dX7_ask_73 : decode cX7_ask 73 = .ok (.ldc 109, 2) := by decide +kernel
theorem dX7_ask_75 : decode cX7_ask 75 = .ok (.ireturn, 1) := by decide +kernel
theorem dX7_item_0 : decode cX7_item 0 = .ok (.iload_n 1, 1) := by decide +kernel
theorem dX7_item_1 : decode cX7_item 1 = .ok (.invokestatic 256, 3) := by decide +kernel
theorem dX7_item_4 : decode cX7_item 4 = .ok (.ifCond .ne 6, 3) := by decide +kernel
theorem dX7_item_7 : decode cX7_item 7 = .ok (.ldc 74, 2) := by decide +kernel
theorem dX7_item_9 : decode cX7_item 9 = .ok (.ireturn, 1) := by decide +kernel
theorem dX7_item_10 : decode cX7_item 10 = .ok (.aload_n 0, 1) := by decide +kernel
theorem dX7_item_11 : decode cX7_item 11 = .ok (.getfield 43, 3) := by decide +kernel
theorem dX7_item_14 : decode cX7_item 14 = .ok (.iload_n 1, 1) := by decide +kernel
theorem dX7_item_15 : decode cX7_item 15 = .ok (.aaload, 1) := by decide +kernel
theorem dX7_item_16 : decode cX7_item 16 = .ok (.iconst 2, 1) := by decide +kernel
theorem dX7_item_17 : decode cX7_item 17 = .ok (.invokevirtual 277, 3) := by decide +kernel
theorem dX7_item_20 : decode cX7_item 20 = .ok (.istore_n 3, 1) := by decide +kernel
theorem dX7_item_21 : decode cX7_item 21 = .ok (.iload_n 3, 1) := by decide +kernel
theorem dX7_item_22 : decode cX7_item 22 = .ok (.ifCond .eq 5, 3) := by decide +kernel
theorem dX7_item_25 : decode cX7_item 25 = .ok (.iload_n 3, 1) := by decide +kernel
theorem dX7_item_26 : decode cX7_item 26 = .ok (.ireturn, 1) := by decide +kernel
theorem dX7_item_27 : decode cX7_item 27 = .ok (.aload_n 0, 1) := by decide +kernel
theorem dX7_item_28 : decode cX7_item 28 = .ok (.getfield 43, 3) := by decide +kernel
theorem dX7_item_31 : decode cX7_item 31 = .ok (.iload_n 1, 1) := by decide +kernel
theorem dX7_item_32 : decode cX7_item 32 = .ok (.aaload, 1) := by decide +kernel
theorem dX7_item_33 : decode cX7_item 33 = .ok (.getfield 269, 3) := by decide +kernel
theorem dX7_item_36 : decode cX7_item 36 = .ok (.astore 4, 2) := by decide +kernel
theorem dX7_item_38 : decode cX7_item 38 = .ok (.aload 4, 2) := by decide +kernel
theorem dX7_item_40 : decode cX7_item 40 = .ok (.iload_n 2, 1) := by decide +kernel
theorem dX7_item_41 : decode cX7_item 41 = .ok (.invokevirtual 228, 3) := by decide +kernel
theorem dX7_item_44 : decode cX7_item 44 = .ok (.ifCond .ne 6, 3) := by decide +kernel
theorem dX7_item_47 : decode cX7_item 47 = .ok (.ldc 231, 2) := by decide +kernel
theorem dX7_item_49 : decode cX7_item 49 = .ok (.ireturn, 1) := by decide +kernel
theorem dX7_item_50 : decode cX7_item 50 = .ok (.aload 4, 2) := by decide +kernel
theorem dX7_item_52 : decode cX7_item 52 = .ok (.iload_n 2, 1) := by decide +kernel
theorem dX7_item_53 : decode cX7_item 53 = .ok (.invokevirtual 240, 3) := by decide +kernel
theorem dX7_item_56 : decode cX7_item 56 = .ok (.ifCond .eq 13, 3) := by decide +kernel
theorem dX7_item_59 : decode cX7_item 59 = .ok (.aload 4, 2) := by decide +kernel
theorem dX7_item_61 : decode cX7_item 61 = .ok (.getfield 235, 3) := by decide +kernel
theorem dX7_item_64 : decode cX7_item 64 = .ok (.iload_n 2, 1) := by decide +kernel
theorem dX7_item_65 : decode cX7_item 65 = .ok (.iaload, 1) := by decide +kernel
theorem dX7_item_66 : decode cX7_item 66 = .ok (.goto 5, 3) := by decide +kernel
theorem dX7_item_69 : decode cX7_item 69 = .ok (.ldc 109, 2) := by decide +kernel
theorem dX7_item_71 : decode cX7_item 71 = .ok (.ireturn, 1) := by decide +kernel
theorem dX7_rest_0 : decode cX7_rest 0 = .ok (.iload_n 1, 1) := by decide +kernel
theorem dX7_rest_1 : decode cX7_rest 1 = .ok (.invokestatic 256, 3) := by decide +kernel
theorem dX7_rest_4 : decode cX7_rest 4 = .ok (.ifCond .ne 6, 3) := by decide +kernel
theorem dX7_rest_7 : decode cX7_rest 7 = .ok (.ldc 74, 2) := by decide +kernel
theorem dX7_rest_9 : decode cX7_rest 9 = .ok (.ireturn, 1) := by decide +kernel
theorem dX7_rest_10 : decode cX7_rest 10 = .ok (.aload_n 0, 1) := by decide +kernel
theorem dX7_rest_11 : decode cX7_rest 11 = .ok (.getfield 43, 3) := by decide +kernel
theorem dX7_rest_14 : decode cX7_rest 14 = .ok (.iload_n 1, 1) := by decide +kernel
theorem dX7_rest_15 : decode cX7_rest 15 = .ok (.aaload, 1) := by decide +kernel
theorem dX7_rest_16 : decode cX7_rest 16 = .ok (.iconst 3, 1) := by decide +kernel
theorem dX7_rest_17 : decode cX7_rest 17 = .ok (.invokevirtual 277, 3) := by decide +kernel
theorem dX7_rest_20 : decode cX7_rest 20 = .ok (.istore_n 3, 1) := by decide +kernel
theorem dX7_rest_21 : decode cX7_rest 21 = .ok (.iload_n 3, 1) := by decide +kernel
theorem dX7_rest_22 : decode cX7_rest 22 = .ok (.ifCond .eq 5, 3) := by decide +kernel
theorem dX7_rest_25 : decode cX7_rest 25 = .ok (.iload_n 3, 1) := by decide +kernel
theorem dX7_rest_26 : decode cX7_rest 26 = .ok (.ireturn, 1) := by decide +kernel
theorem dX7_rest_27 : decode cX7_rest 27 = .ok (.iload_n 2, 1) := by decide +kernel
theorem dX7_rest_28 : decode cX7_rest 28 = .ok (.ifCond .ne 9, 3) := by decide +kernel
theorem dX7_rest_31 : decode cX7_rest 31 = .ok (.ldc_w 283, 3) := by decide +kernel
theorem dX7_rest_34 : decode cX7_rest 34 = .ok (.goto 14, 3) := by decide +kernel
theorem dX7_rest_37 : decode cX7_rest 37 = .ok (.aload_n 0, 1) := by decide +kernel
theorem dX7_rest_38 : decode cX7_rest 38 = .ok (.getfield 43, 3) := by decide +kernel
theorem dX7_rest_41 : decode cX7_rest 41 = .ok (.iload_n 1, 1) := by decide +kernel
theorem dX7_rest_42 : decode cX7_rest 42 = .ok (.aaload, 1) := by decide +kernel
theorem dX7_rest_43 : decode cX7_rest 43 = .ok (.getfield 276, 3) := by decide +kernel
theorem dX7_rest_46 : decode cX7_rest 46 = .ok (.iload_n 2, 1) := by decide +kernel
theorem dX7_rest_47 : decode cX7_rest 47 = .ok (.irem, 1) := by decide +kernel
theorem dX7_rest_48 : decode cX7_rest 48 = .ok (.ireturn, 1) := by decide +kernel
theorem dX7_tell_0 : decode cX7_tell 0 = .ok (.aload_n 0, 1) := by decide +kernel
theorem dX7_tell_1 : decode cX7_tell 1 = .ok (.getfield 51, 3) := by decide +kernel
theorem dX7_tell_4 : decode cX7_tell 4 = .ok (.aload_n 0, 1) := by decide +kernel
theorem dX7_tell_5 : decode cX7_tell 5 = .ok (.getfield 47, 3) := by decide +kernel
theorem dX7_tell_8 : decode cX7_tell 8 = .ok (.arraylength, 1) := by decide +kernel
theorem dX7_tell_9 : decode cX7_tell 9 = .ok (.if_icmp .lt 6, 3) := by decide +kernel
theorem dX7_tell_12 : decode cX7_tell 12 = .ok (.ldc 78, 2) := by decide +kernel
theorem dX7_tell_14 : decode cX7_tell 14 = .ok (.ireturn, 1) := by decide +kernel
theorem dX7_tell_15 : decode cX7_tell 15 = .ok (.aload_n 0, 1) := by decide +kernel
theorem dX7_tell_16 : decode cX7_tell 16 = .ok (.getfield 47, 3) := by decide +kernel
theorem dX7_tell_19 : decode cX7_tell 19 = .ok (.aload_n 0, 1) := by decide +kernel
theorem dX7_tell_20 : decode cX7_tell 20 = .ok (.getfield 51, 3) := by decide +kernel
theorem dX7_tell_23 : decode cX7_tell 23 = .ok (.iload_n 1, 1) := by decide +kernel
theorem dX7_tell_24 : decode cX7_tell 24 = .ok (.iastore, 1) := by decide +kernel
theorem dX7_tell_25 : decode cX7_tell 25 = .ok (.aload_n 0, 1) := by decide +kernel
theorem dX7_tell_26 : decode cX7_tell 26 = .ok (.dup, 1) := by decide +kernel
theorem dX7_tell_27 : decode cX7_tell 27 = .ok (.getfield 51, 3) := by decide +kernel
theorem dX7_tell_30 : decode cX7_tell 30 = .ok (.iconst 1, 1) := by decide +kernel
theorem dX7_tell_31 : decode cX7_tell 31 = .ok (.iadd, 1) := by decide +kernel
theorem dX7_tell_32 : decode cX7_tell 32 = .ok (.putfield 51, 3) := by decide +kernel
theorem dX7_tell_35 : decode cX7_tell 35 = .ok (.aload_n 0, 1) := by decide +kernel
theorem dX7_tell_36 : decode cX7_tell 36 = .ok (.getfield 51, 3) := by decide +kernel
theorem dX7_tell_39 : decode cX7_tell 39 = .ok (.ireturn, 1) := by decide +kernel
theorem dX7_check_0 : decode cX7_check 0 = .ok (.aload_n 0, 1) := by decide +kernel
theorem dX7_check_1 : decode cX7_check 1 = .ok (.getfield 51, 3) := by decide +kernel
theorem dX7_check_4 : decode cX7_check 4 = .ok (.istore_n 2, 1) := by decide +kernel
theorem dX7_check_5 : decode cX7_check 5 = .ok (.aload_n 0, 1) := by decide +kernel
theorem dX7_check_6 : decode cX7_check 6 = .ok (.iconst 0, 1) := by decide +kernel
theorem dX7_check_7 : decode cX7_check 7 = .ok (.putfield 51, 3) := by decide +kernel
theorem dX7_check_10 : decode cX7_check 10 = .ok (.iload_n 1, 1) := by decide +kernel
theorem dX7_check_11 : decode cX7_check 11 = .ok (.iconst 1, 1) := by decide +kernel
theorem dX7_check_12 : decode cX7_check 12 = .ok (.if_icmp .lt 9, 3) := by decide +kernel
theorem dX7_check_15 : decode cX7_check 15 = .ok (.iload_n 1, 1) := by decide +kernel
theorem dX7_check_16 : decode cX7_check 16 = .ok (.bipush 30, 2) := by decide +kernel
theorem dX7_check_18 : decode cX7_check 18 = .ok (.if_icmp .le 6, 3) := by decide +kernel
theorem dX7_check_21 : decode cX7_check 21 = .ok (.ldc 74, 2) := by decide +kernel
theorem dX7_check_23 : decode cX7_check 23 = .ok (.ireturn, 1) := by decide +kernel
theorem dX7_check_24 : decode cX7_check 24 = .ok (.aload_n 0, 1) := by decide +kernel
theorem dX7_check_25 : decode cX7_check 25 = .ok (.getfield 55, 3) := by decide +kernel
theorem dX7_check_28 : decode cX7_check 28 = .ok (.ifCond .ne 7, 3) := by decide +kernel
theorem dX7_check_31 : decode cX7_check 31 = .ok (.ldc_w 283, 3) := by decide +kernel
theorem dX7_check_34 : decode cX7_check 34 = .ok (.ireturn, 1) := by decide +kernel
theorem dX7_check_35 : decode cX7_check 35 = .ok (.aload_n 0, 1) := by decide +kernel
theorem dX7_check_36 : decode cX7_check 36 = .ok (.getfield 32, 3) := by decide +kernel
theorem dX7_check_39 : decode cX7_check 39 = .ok (.aload_n 0, 1) := by decide +kernel
theorem dX7_check_40 : decode cX7_check 40 = .ok (.getfield 29, 3) := by decide +kernel
theorem dX7_check_43 : decode cX7_check 43 = .ok (.invokevirtual 161, 3) := by decide +kernel
theorem dX7_check_46 : decode cX7_check 46 = .ok (.iload_n 1, 1) := by decide +kernel
theorem dX7_check_47 : decode cX7_check 47 = .ok (.sipush 9999, 3) := by decide +kernel
theorem dX7_check_50 : decode cX7_check 50 = .ok (.aload_n 0, 1) := by decide +kernel
theorem dX7_check_51 : decode cX7_check 51 = .ok (.getfield 29, 3) := by decide +kernel
theorem dX7_check_54 : decode cX7_check 54 = .ok (.getfield 135, 3) := by decide +kernel
theorem dX7_check_57 : decode cX7_check 57 = .ok (.isub, 1) := by decide +kernel
theorem dX7_check_58 : decode cX7_check 58 = .ok (.invokestatic 114, 3) := by decide +kernel
theorem dX7_check_61 : decode cX7_check 61 = .ok (.istore_n 3, 1) := by decide +kernel
theorem dX7_check_62 : decode cX7_check 62 = .ok (.iconst 0, 1) := by decide +kernel
theorem dX7_check_63 : decode cX7_check 63 = .ok (.istore 4, 2) := by decide +kernel
theorem dX7_check_65 : decode cX7_check 65 = .ok (.iload 4, 2) := by decide +kernel
theorem dX7_check_67 : decode cX7_check 67 = .ok (.iload_n 3, 1) := by decide +kernel
theorem dX7_check_68 : decode cX7_check 68 = .ok (.if_icmp .ge 71, 3) := by decide +kernel
theorem dX7_check_71 : decode cX7_check 71 = .ok (.aload_n 0, 1) := by decide +kernel
theorem dX7_check_72 : decode cX7_check 72 = .ok (.getfield 32, 3) := by decide +kernel
theorem dX7_check_75 : decode cX7_check 75 = .ok (.invokevirtual 284, 3) := by decide +kernel
theorem dX7_check_78 : decode cX7_check 78 = .ok (.pop, 1) := by decide +kernel
theorem dX7_check_79 : decode cX7_check 79 = .ok (.aload_n 0, 1) := by decide +kernel
theorem dX7_check_80 : decode cX7_check 80 = .ok (.iconst 2, 1) := by decide +kernel
theorem dX7_check_81 : decode cX7_check 81 = .ok (.iload 4, 2) := by decide +kernel
theorem dX7_check_83 : decode cX7_check 83 = .ok (.imul, 1) := by decide +kernel
theorem dX7_check_84 : decode cX7_check 84 = .ok (.iload_n 2, 1) := by decide +kernel
theorem dX7_check_85 : decode cX7_check 85 = .ok (.aload_n 0, 1) := by decide +kernel
theorem dX7_check_86 : decode cX7_check 86 = .ok (.getfield 32, 3) := by decide +kernel
theorem dX7_check_89 : decode cX7_check 89 = .ok (.invokevirtual 141, 3) := by decide +kernel
theorem dX7_check_92 : decode cX7_check 92 = .ok (.invokevirtual 287, 3) := by decide +kernel
theorem dX7_check_95 : decode cX7_check 95 = .ok (.ifCond .ne 10, 3) := by decide +kernel
theorem dX7_check_98 : decode cX7_check 98 = .ok (.iconst 1, 1) := by decide +kernel
theorem dX7_check_99 : decode cX7_check 99 = .ok (.iconst 2, 1) := by decide +kernel
theorem dX7_check_100 : decode cX7_check 100 = .ok (.iload 4, 2) := by decide +kernel
theorem dX7_check_102 : decode cX7_check 102 = .ok (.imul, 1) := by decide +kernel
theorem dX7_check_103 : decode cX7_check 103 = .ok (.iadd, 1) := by decide +kernel
theorem dX7_check_104 : decode cX7_check 104 = .ok (.ireturn, 1) := by decide +kernel
theorem dX7_check_105 : decode cX7_check 105 = .ok (.aload_n 0, 1) := by decide +kernel
theorem dX7_check_106 : decode cX7_check 106 = .ok (.iconst 2, 1) := by decide +kernel
theorem dX7_check_107 : decode cX7_check 107 = .ok (.iload 4, 2) := by decide +kernel
theorem dX7_check_109 : decode cX7_check 109 = .ok (.imul, 1) := by decide +kernel
theorem dX7_check_110 : decode cX7_check 110 = .ok (.iconst 1, 1) := by decide +kernel
theorem dX7_check_111 : decode cX7_check 111 = .ok (.iadd, 1) := by decide +kernel
theorem dX7_check_112 : decode cX7_check 112 = .ok (.iload_n 2, 1) := by decide +kernel
theorem dX7_check_113 : decode cX7_check 113 = .ok (.aload_n 0, 1) := by decide +kernel
theorem dX7_check_114 : decode cX7_check 114 = .ok (.getfield 32, 3) := by decide +kernel
theorem dX7_check_117 : decode cX7_check 117 = .ok (.getfield 148, 3) := by decide +kernel
theorem dX7_check_120 : decode cX7_check 120 = .ok (.invokevirtual 287, 3) := by decide +kernel
theorem dX7_check_123 : decode cX7_check 123 = .ok (.ifCond .ne 10, 3) := by decide +kernel
theorem dX7_check_126 : decode cX7_check 126 = .ok (.iconst 2, 1) := by decide +kernel
theorem dX7_check_127 : decode cX7_check 127 = .ok (.iconst 2, 1) := by decide +kernel
theorem dX7_check_128 : decode cX7_check 128 = .ok (.iload 4, 2) := by decide +kernel
theorem dX7_check_130 : decode cX7_check 130 = .ok (.imul, 1) := by decide +kernel
theorem dX7_check_131 : decode cX7_check 131 = .ok (.iadd, 1) := by decide +kernel
theorem dX7_check_132 : decode cX7_check 132 = .ok (.ireturn, 1) := by decide +kernel
theorem dX7_check_133 : decode cX7_check 133 = .ok (.iinc 4 1, 3) := by decide +kernel
theorem dX7_check_136 : decode cX7_check 136 = .ok (.goto (-71), 3) := by decide +kernel
theorem dX7_check_139 : decode cX7_check 139 = .ok (.iload_n 2, 1) := by decide +kernel
theorem dX7_check_140 : decode cX7_check 140 = .ok (.iconst 2, 1) := by decide +kernel
theorem dX7_check_141 : decode cX7_check 141 = .ok (.iload_n 3, 1) := by decide +kernel
theorem dX7_check_142 : decode cX7_check 142 = .ok (.imul, 1) := by decide +kernel
theorem dX7_check_143 : decode cX7_check 143 = .ok (.if_icmp .le 11, 3) := by decide +kernel
theorem dX7_check_146 : decode cX7_check 146 = .ok (.iconst 1, 1) := by decide +kernel
theorem dX7_check_147 : decode cX7_check 147 = .ok (.iconst 2, 1) := by decide +kernel
theorem dX7_check_148 : decode cX7_check 148 = .ok (.iload_n 3, 1) := by decide +kernel
theorem dX7_check_149 : decode cX7_check 149 = .ok (.imul, 1) := by decide +kernel
theorem dX7_check_150 : decode cX7_check 150 = .ok (.iadd, 1) := by decide +kernel
theorem dX7_check_151 : decode cX7_check 151 = .ok (.goto 4, 3) := by decide +kernel
theorem dX7_check_154 : decode cX7_check 154 = .ok (.iconst 0, 1) := by decide +kernel
theorem dX7_check_155 : decode cX7_check 155 = .ok (.ireturn, 1) := by decide +kernel
theorem dX7_keep_0 : decode cX7_keep 0 = .ok (.aload_n 0, 1) := by decide +kernel
theorem dX7_keep_1 : decode cX7_keep 1 = .ok (.getfield 29, 3) := by decide +kernel
theorem dX7_keep_4 : decode cX7_keep 4 = .ok (.aload_n 0, 1) := by decide +kernel
theorem dX7_keep_5 : decode cX7_keep 5 = .ok (.getfield 25, 3) := by decide +kernel
theorem dX7_keep_8 : decode cX7_keep 8 = .ok (.invokevirtual 161, 3) := by decide +kernel
theorem dX7_keep_11 : decode cX7_keep 11 = .ok (.aload_n 0, 1) := by decide +kernel
theorem dX7_keep_12 : decode cX7_keep 12 = .ok (.iconst 1, 1) := by decide +kernel
theorem dX7_keep_13 : decode cX7_keep 13 = .ok (.putfield 55, 3) := by decide +kernel
theorem dX7_keep_16 : decode cX7_keep 16 = .ok (.aload_n 0, 1) := by decide +kernel
theorem dX7_keep_17 : decode cX7_keep 17 = .ok (.getfield 29, 3) := by decide +kernel
theorem dX7_keep_20 : decode cX7_keep 20 = .ok (.getfield 75, 3) := by decide +kernel
theorem dX7_keep_23 : decode cX7_keep 23 = .ok (.ireturn, 1) := by decide +kernel
theorem dX7_back_0 : decode cX7_back 0 = .ok (.aload_n 0, 1) := by decide +kernel
theorem dX7_back_1 : decode cX7_back 1 = .ok (.getfield 55, 3) := by decide +kernel
theorem dX7_back_4 : decode cX7_back 4 = .ok (.ifCond .ne 7, 3) := by decide +kernel
theorem dX7_back_7 : decode cX7_back 7 = .ok (.ldc_w 283, 3) := by decide +kernel
theorem dX7_back_10 : decode cX7_back 10 = .ok (.ireturn, 1) := by decide +kernel
theorem dX7_back_11 : decode cX7_back 11 = .ok (.aload_n 0, 1) := by decide +kernel
theorem dX7_back_12 : decode cX7_back 12 = .ok (.getfield 25, 3) := by decide +kernel
theorem dX7_back_15 : decode cX7_back 15 = .ok (.aload_n 0, 1) := by decide +kernel
theorem dX7_back_16 : decode cX7_back 16 = .ok (.getfield 29, 3) := by decide +kernel
theorem dX7_back_19 : decode cX7_back 19 = .ok (.invokevirtual 161, 3) := by decide +kernel
theorem dX7_back_22 : decode cX7_back 22 = .ok (.aload_n 0, 1) := by decide +kernel
theorem dX7_back_23 : decode cX7_back 23 = .ok (.getfield 25, 3) := by decide +kernel
theorem dX7_back_26 : decode cX7_back 26 = .ok (.getfield 75, 3) := by decide +kernel
theorem dX7_back_29 : decode cX7_back 29 = .ok (.ireturn, 1) := by decide +kernel
theorem dX7_count_0 : decode cX7_count 0 = .ok (.iload_n 1, 1) := by decide +kernel
theorem dX7_count_1 : decode cX7_count 1 = .ok (.tableswitch 128 0 8 #[51, 59, 67, 75, 83, 99, 107, 112, 120], 51) := by decide +kernel
theorem dX7_count_52 : decode cX7_count 52 = .ok (.aload_n 0, 1) := by decide +kernel
theorem dX7_count_53 : decode cX7_count 53 = .ok (.getfield 25, 3) := by decide +kernel
theorem dX7_count_56 : decode cX7_count 56 = .ok (.getfield 75, 3) := by decide +kernel
theorem dX7_count_59 : decode cX7_count 59 = .ok (.ireturn, 1) := by decide +kernel
theorem dX7_count_60 : decode cX7_count 60 = .ok (.aload_n 0, 1) := by decide +kernel
theorem dX7_count_61 : decode cX7_count 61 = .ok (.getfield 25, 3) := by decide +kernel
theorem dX7_count_64 : decode cX7_count 64 = .ok (.getfield 135, 3) := by decide +kernel
theorem dX7_count_67 : decode cX7_count 67 = .ok (.ireturn, 1) := by decide +kernel
theorem dX7_count_68 : decode cX7_count 68 = .ok (.aload_n 0, 1) := by decide +kernel
theorem dX7_count_69 : decode cX7_count 69 = .ok (.getfield 25, 3) := by decide +kernel
theorem dX7_count_72 : decode cX7_count 72 = .ok (.getfield 126, 3) := by decide +kernel
theorem dX7_count_75 : decode cX7_count 75 = .ok (.ireturn, 1) := by decide +kernel
theorem dX7_count_76 : decode cX7_count 76 = .ok (.aload_n 0, 1) := by decide +kernel
theorem dX7_count_77 : decode cX7_count 77 = .ok (.getfield 25, 3) := by decide +kernel
theorem dX7_count_80 : decode cX7_count 80 = .ok (.getfield 129, 3) := by decide +kernel
theorem dX7_count_83 : decode cX7_count 83 = .ok (.ireturn, 1) := by decide +kernel
theorem dX7_count_84 : decode cX7_count 84 = .ok (.aload_n 0, 1) := by decide +kernel
theorem dX7_count_85 : decode cX7_count 85 = .ok (.getfield 25, 3) := by decide +kernel
theorem dX7_count_88 : decode cX7_count 88 = .ok (.getfield 132, 3) := by decide +kernel
theorem dX7_count_91 : decode cX7_count 91 = .ok (.ifCond .eq 7, 3) := by decide +kernel
theorem dX7_count_94 : decode cX7_count 94 = .ok (.iconst 1, 1) := by decide +kernel
theorem dX7_count_95 : decode cX7_count 95 = .ok (.goto 4, 3) := by decide +kernel
theorem dX7_count_98 : decode cX7_count 98 = .ok (.iconst 0, 1) := by decide +kernel
theorem dX7_count_99 : decode cX7_count 99 = .ok (.ireturn, 1) := by decide +kernel
theorem dX7_count_100 : decode cX7_count 100 = .ok (.aload_n 0, 1) := by decide +kernel
theorem dX7_count_101 : decode cX7_count 101 = .ok (.getfield 25, 3) := by decide +kernel
theorem dX7_count_104 : decode cX7_count 104 = .ok (.getfield 204, 3) := by decide +kernel
theorem dX7_count_107 : decode cX7_count 107 = .ok (.ireturn, 1) := by decide +kernel
theorem dX7_count_108 : decode cX7_count 108 = .ok (.aload_n 0, 1) := by decide +kernel
theorem dX7_count_109 : decode cX7_count 109 = .ok (.getfield 51, 3) := by decide +kernel
theorem dX7_count_112 : decode cX7_count 112 = .ok (.ireturn, 1) := by decide +kernel
theorem dX7_count_113 : decode cX7_count 113 = .ok (.aload_n 0, 1) := by decide +kernel
theorem dX7_count_114 : decode cX7_count 114 = .ok (.getfield 18, 3) := by decide +kernel
theorem dX7_count_117 : decode cX7_count 117 = .ok (.getfield 197, 3) := by decide +kernel
theorem dX7_count_120 : decode cX7_count 120 = .ok (.ireturn, 1) := by decide +kernel
theorem dX7_count_121 : decode cX7_count 121 = .ok (.aload_n 0, 1) := by decide +kernel
theorem dX7_count_122 : decode cX7_count 122 = .ok (.getfield 25, 3) := by decide +kernel
theorem dX7_count_125 : decode cX7_count 125 = .ok (.getfield 123, 3) := by decide +kernel
theorem dX7_count_128 : decode cX7_count 128 = .ok (.ireturn, 1) := by decide +kernel
theorem dX7_count_129 : decode cX7_count 129 = .ok (.ldc 74, 2) := by decide +kernel
theorem dX7_count_131 : decode cX7_count 131 = .ok (.ireturn, 1) := by decide +kernel
theorem dX7_isBoy_0 : decode cX7_isBoy 0 = .ok (.iload_n 1, 1) := by decide +kernel
theorem dX7_isBoy_1 : decode cX7_isBoy 1 = .ok (.ifCond .lt 18, 3) := by decide +kernel
theorem dX7_isBoy_4 : decode cX7_isBoy 4 = .ok (.iload_n 1, 1) := by decide +kernel
theorem dX7_isBoy_5 : decode cX7_isBoy 5 = .ok (.aload_n 0, 1) := by decide +kernel
theorem dX7_isBoy_6 : decode cX7_isBoy 6 = .ok (.getfield 25, 3) := by decide +kernel
theorem dX7_isBoy_9 : decode cX7_isBoy 9 = .ok (.getfield 75, 3) := by decide +kernel
theorem dX7_isBoy_12 : decode cX7_isBoy 12 = .ok (.if_icmp .ge 7, 3) := by decide +kernel
theorem dX7_isBoy_15 : decode cX7_isBoy 15 = .ok (.iconst 1, 1) := by decide +kernel
theorem dX7_isBoy_16 : decode cX7_isBoy 16 = .ok (.goto 4, 3) := by decide +kernel
theorem dX7_isBoy_19 : decode cX7_isBoy 19 = .ok (.iconst 0, 1) := by decide +kernel
theorem dX7_isBoy_20 : decode cX7_isBoy 20 = .ok (.ireturn, 1) := by decide +kernel
theorem dX7_isKind_0 : decode cX7_isKind 0 = .ok (.iload_n 0, 1) := by decide +kernel
theorem dX7_isKind_1 : decode cX7_isKind 1 = .ok (.ifCond .lt 13, 3) := by decide +kernel
theorem dX7_isKind_4 : decode cX7_isKind 4 = .ok (.iload_n 0, 1) := by decide +kernel
theorem dX7_isKind_5 : decode cX7_isKind 5 = .ok (.bipush 6, 2) := by decide +kernel
theorem dX7_isKind_7 : decode cX7_isKind 7 = .ok (.if_icmp .ge 7, 3) := by decide +kernel
theorem dX7_isKind_10 : decode cX7_isKind 10 = .ok (.iconst 1, 1) := by decide +kernel
theorem dX7_isKind_11 : decode cX7_isKind 11 = .ok (.goto 4, 3) := by decide +kernel
theorem dX7_isKind_14 : decode cX7_isKind 14 = .ok (.iconst 0, 1) := by decide +kernel
theorem dX7_isKind_15 : decode cX7_isKind 15 = .ok (.ireturn, 1) := by decide +kernel
theorem dX7_isSheet_0 : decode cX7_isSheet 0 = .ok (.iload_n 0, 1) := by decide +kernel
theorem dX7_isSheet_1 : decode cX7_isSheet 1 = .ok (.ifCond .lt 12, 3) := by decide +kernel
theorem dX7_isSheet_4 : decode cX7_isSheet 4 = .ok (.iload_n 0, 1) := by decide +kernel
theorem dX7_isSheet_5 : decode cX7_isSheet 5 = .ok (.iconst 4, 1) := by decide +kernel
theorem dX7_isSheet_6 : decode cX7_isSheet 6 = .ok (.if_icmp .ge 7, 3) := by decide +kernel
theorem dX7_isSheet_9 : decode cX7_isSheet 9 = .ok (.iconst 1, 1) := by decide +kernel
theorem dX7_isSheet_10 : decode cX7_isSheet 10 = .ok (.goto 4, 3) := by decide +kernel
theorem dX7_isSheet_13 : decode cX7_isSheet 13 = .ok (.iconst 0, 1) := by decide +kernel
theorem dX7_isSheet_14 : decode cX7_isSheet 14 = .ok (.ireturn, 1) := by decide +kernel
theorem dX7_isSlot_0 : decode cX7_isSlot 0 = .ok (.iload_n 0, 1) := by decide +kernel
theorem dX7_isSlot_1 : decode cX7_isSlot 1 = .ok (.ifCond .lt 12, 3) := by decide +kernel
theorem dX7_isSlot_4 : decode cX7_isSlot 4 = .ok (.iload_n 0, 1) := by decide +kernel
theorem dX7_isSlot_5 : decode cX7_isSlot 5 = .ok (.iconst 5, 1) := by decide +kernel
theorem dX7_isSlot_6 : decode cX7_isSlot 6 = .ok (.if_icmp .ge 7, 3) := by decide +kernel
theorem dX7_isSlot_9 : decode cX7_isSlot 9 = .ok (.iconst 1, 1) := by decide +kernel
theorem dX7_isSlot_10 : decode cX7_isSlot 10 = .ok (.goto 4, 3) := by decide +kernel
theorem dX7_isSlot_13 : decode cX7_isSlot 13 = .ok (.iconst 0, 1) := by decide +kernel
theorem dX7_isSlot_14 : decode cX7_isSlot 14 = .ok (.ireturn, 1) := by decide +kernel
theorem dX7_mayBeThought_0 : decode cX7_mayBeThought 0 = .ok (.iload_n 0, 1) := by decide +kernel
theorem dX7_mayBeThought_1 : decode cX7_mayBeThought 1 = .ok (.iconst 1, 1) := by decide +kernel
theorem dX7_mayBeThought_2 : decode cX7_mayBeThought 2 = .ok (.if_icmp .lt 13, 3) := by decide +kernel
theorem dX7_mayBeThought_5 : decode cX7_mayBeThought 5 = .ok (.iload_n 0, 1) := by decide +kernel
theorem dX7_mayBeThought_6 : decode cX7_mayBeThought 6 = .ok (.bipush 60, 2) := by decide +kernel
theorem dX7_mayBeThought_8 : decode cX7_mayBeThought 8 = .ok (.if_icmp .gt 7, 3) := by decide +kernel
theorem dX7_mayBeThought_11 : decode cX7_mayBeThought 11 = .ok (.iconst 1, 1) := by decide +kernel
theorem dX7_mayBeThought_12 : decode cX7_mayBeThought 12 = .ok (.goto 4, 3) := by decide +kernel
theorem dX7_mayBeThought_15 : decode cX7_mayBeThought 15 = .ok (.iconst 0, 1) := by decide +kernel
theorem dX7_mayBeThought_16 : decode cX7_mayBeThought 16 = .ok (.ireturn, 1) := by decide +kernel
theorem dX7_differences_0 : decode cX7_differences 0 = .ok (.iconst 0, 1) := by decide +kernel
theorem dX7_differences_1 : decode cX7_differences 1 = .ok (.istore_n 3, 1) := by decide +kernel
theorem dX7_differences_2 : decode cX7_differences 2 = .ok (.iconst 0, 1) := by decide +kernel
theorem dX7_differences_3 : decode cX7_differences 3 = .ok (.istore 4, 2) := by decide +kernel
theorem dX7_differences_5 : decode cX7_differences 5 = .ok (.iload 4, 2) := by decide +kernel
theorem dX7_differences_7 : decode cX7_differences 7 = .ok (.aload_n 2, 1) := by decide +kernel
theorem dX7_differences_8 : decode cX7_differences 8 = .ok (.getfield 246, 3) := by decide +kernel
theorem dX7_differences_11 : decode cX7_differences 11 = .ok (.if_icmp .ge 43, 3) := by decide +kernel
theorem dX7_differences_14 : decode cX7_differences 14 = .ok (.aload_n 2, 1) := by decide +kernel
theorem dX7_differences_15 : decode cX7_differences 15 = .ok (.iload 4, 2) := by decide +kernel
theorem dX7_differences_17 : decode cX7_differences 17 = .ok (.invokevirtual 240, 3) := by decide +kernel
theorem dX7_differences_20 : decode cX7_differences 20 = .ok (.ifCond .eq 28, 3) := by decide +kernel
theorem dX7_differences_23 : decode cX7_differences 23 = .ok (.iload_n 3, 1) := by decide +kernel
theorem dX7_differences_24 : decode cX7_differences 24 = .ok (.aload_n 0, 1) := by decide +kernel
theorem dX7_differences_25 : decode cX7_differences 25 = .ok (.getfield 25, 3) := by decide +kernel
theorem dX7_differences_28 : decode cX7_differences 28 = .ok (.aload_n 1, 1) := by decide +kernel
theorem dX7_differences_29 : decode cX7_differences 29 = .ok (.iload 4, 2) := by decide +kernel
theorem dX7_differences_31 : decode cX7_differences 31 = .ok (.iconst 0, 1) := by decide +kernel
theorem dX7_differences_32 : decode cX7_differences 32 = .ok (.invokevirtual 94, 3) := by decide +kernel
theorem dX7_differences_35 : decode cX7_differences 35 = .ok (.aload_n 2, 1) := by decide +kernel
theorem dX7_differences_36 : decode cX7_differences 36 = .ok (.getfield 235, 3) := by decide +kernel
theorem dX7_differences_39 : decode cX7_differences 39 = .ok (.iload 4, 2) := by decide +kernel
theorem dX7_differences_41 : decode cX7_differences 41 = .ok (.iaload, 1) := by decide +kernel
theorem dX7_differences_42 : decode cX7_differences 42 = .ok (.isub, 1) := by decide +kernel
theorem dX7_differences_43 : decode cX7_differences 43 = .ok (.invokestatic 291, 3) := by decide +kernel
theorem dX7_differences_46 : decode cX7_differences 46 = .ok (.iadd, 1) := by decide +kernel
theorem dX7_differences_47 : decode cX7_differences 47 = .ok (.istore_n 3, 1) := by decide +kernel
theorem dX7_differences_48 : decode cX7_differences 48 = .ok (.iinc 4 1, 3) := by decide +kernel
theorem dX7_differences_51 : decode cX7_differences 51 = .ok (.goto (-46), 3) := by decide +kernel
theorem dX7_differences_54 : decode cX7_differences 54 = .ok (.iload_n 3, 1) := by decide +kernel
theorem dX7_differences_55 : decode cX7_differences 55 = .ok (.ireturn, 1) := by decide +kernel
theorem dX7_waits_0 : decode cX7_waits 0 = .ok (.iload_n 1, 1) := by decide +kernel
theorem dX7_waits_1 : decode cX7_waits 1 = .ok (.iload_n 2, 1) := by decide +kernel
theorem dX7_waits_2 : decode cX7_waits 2 = .ok (.if_icmp .ge 26, 3) := by decide +kernel
theorem dX7_waits_5 : decode cX7_waits 5 = .ok (.iload_n 1, 1) := by decide +kernel
theorem dX7_waits_6 : decode cX7_waits 6 = .ok (.aload_n 0, 1) := by decide +kernel
theorem dX7_waits_7 : decode cX7_waits 7 = .ok (.getfield 47, 3) := by decide +kernel
theorem dX7_waits_10 : decode cX7_waits 10 = .ok (.arraylength, 1) := by decide +kernel
theorem dX7_waits_11 : decode cX7_waits 11 = .ok (.if_icmp .ge 17, 3) := by decide +kernel
theorem dX7_waits_14 : decode cX7_waits 14 = .ok (.aload_n 0, 1) := by decide +kernel
theorem dX7_waits_15 : decode cX7_waits 15 = .ok (.getfield 47, 3) := by decide +kernel
theorem dX7_waits_18 : decode cX7_waits 18 = .ok (.iload_n 1, 1) := by decide +kernel
theorem dX7_waits_19 : decode cX7_waits 19 = .ok (.iaload, 1) := by decide +kernel
theorem dX7_waits_20 : decode cX7_waits 20 = .ok (.iload_n 3, 1) := by decide +kernel
theorem dX7_waits_21 : decode cX7_waits 21 = .ok (.if_icmp .ne 7, 3) := by decide +kernel
theorem dX7_waits_24 : decode cX7_waits 24 = .ok (.iconst 1, 1) := by decide +kernel
theorem dX7_waits_25 : decode cX7_waits 25 = .ok (.goto 4, 3) := by decide +kernel
theorem dX7_waits_28 : decode cX7_waits 28 = .ok (.iconst 0, 1) := by decide +kernel
theorem dX7_waits_29 : decode cX7_waits 29 = .ok (.ireturn, 1) := by decide +kernel
theorem dX8_init_0 : decode cX8_init 0 = .ok (.aload_n 0, 1) := by decide +kernel
theorem dX8_init_1 : decode cX8_init 1 = .ok (.invokespecial 1, 3) := by decide +kernel
theorem dX8_init_4 : decode cX8_init 4 = .ok (.aload_n 0, 1) := by decide +kernel
theorem dX8_init_5 : decode cX8_init 5 = .ok (.sipush 1437, 3) := by decide +kernel
theorem dX8_init_8 : decode cX8_init 8 = .ok (.newarray .int, 2) := by decide +kernel
theorem dX8_init_10 : decode cX8_init 10 = .ok (.putfield 9, 3) := by decide +kernel
theorem dX8_init_13 : decode cX8_init 13 = .ok (.aload_n 0, 1) := by decide +kernel
theorem dX8_init_14 : decode cX8_init 14 = .ok (.sipush 1437, 3) := by decide +kernel
theorem dX8_init_17 : decode cX8_init 17 = .ok (.newarray .int, 2) := by decide +kernel
theorem dX8_init_19 : decode cX8_init 19 = .ok (.putfield 13, 3) := by decide +kernel
theorem dX8_init_22 : decode cX8_init 22 = .ok (.aload_n 0, 1) := by decide +kernel
theorem dX8_init_23 : decode cX8_init 23 = .ok (.sipush 1437, 3) := by decide +kernel
theorem dX8_init_26 : decode cX8_init 26 = .ok (.newarray .int, 2) := by decide +kernel
theorem dX8_init_28 : decode cX8_init 28 = .ok (.putfield 16, 3) := by decide +kernel
theorem dX8_init_31 : decode cX8_init 31 = .ok (.aload_n 0, 1) := by decide +kernel
theorem dX8_init_32 : decode cX8_init 32 = .ok (.iconst (-1), 1) := by decide +kernel
theorem dX8_init_33 : decode cX8_init 33 = .ok (.putfield 19, 3) := by decide +kernel
theorem dX8_init_36 : decode cX8_init 36 = .ok (.aload_n 0, 1) := by decide +kernel
theorem dX8_init_37 : decode cX8_init 37 = .ok (.bipush 65, 2) := by decide +kernel
theorem dX8_init_39 : decode cX8_init 39 = .ok (.newarray .int, 2) := by decide +kernel
theorem dX8_init_41 : decode cX8_init 41 = .ok (.putfield 23, 3) := by decide +kernel
theorem dX8_init_44 : decode cX8_init 44 = .ok (.aload_n 0, 1) := by decide +kernel
theorem dX8_init_45 : decode cX8_init 45 = .ok (.bipush 96, 2) := by decide +kernel
theorem dX8_init_47 : decode cX8_init 47 = .ok (.newarray .int, 2) := by decide +kernel
theorem dX8_init_49 : decode cX8_init 49 = .ok (.putfield 26, 3) := by decide +kernel
theorem dX8_init_52 : decode cX8_init 52 = .ok (.aload_n 0, 1) := by decide +kernel
theorem dX8_init_53 : decode cX8_init 53 = .ok (.bipush 12, 2) := by decide +kernel
theorem dX8_init_55 : decode cX8_init 55 = .ok (.newarray .char, 2) := by decide +kernel
theorem dX8_init_57 : decode cX8_init 57 = .ok (.dup, 1) := by decide +kernel
theorem dX8_init_58 : decode cX8_init 58 = .ok (.iconst 0, 1) := by decide +kernel
theorem dX8_init_59 : decode cX8_init 59 = .ok (.bipush 115, 2) := by decide +kernel
theorem dX8_init_61 : decode cX8_init 61 = .ok (.castore, 1) := by decide +kernel
theorem dX8_init_62 : decode cX8_init 62 = .ok (.dup, 1) := by decide +kernel
theorem dX8_init_63 : decode cX8_init 63 = .ok (.iconst 1, 1) := by decide +kernel
theorem dX8_init_64 : decode cX8_init 64 = .ok (.bipush 104, 2) := by decide +kernel
theorem dX8_init_66 : decode cX8_init 66 = .ok (.castore, 1) := by decide +kernel
theorem dX8_init_67 : decode cX8_init 67 = .ok (.dup, 1) := by decide +kernel
theorem dX8_init_68 : decode cX8_init 68 = .ok (.iconst 2, 1) := by decide +kernel
theorem dX8_init_69 : decode cX8_init 69 = .ok (.bipush 105, 2) := by decide +kernel
theorem dX8_init_71 : decode cX8_init 71 = .ok (.castore, 1) := by decide +kernel
theorem dX8_init_72 : decode cX8_init 72 = .ok (.dup, 1) := by decide +kernel
theorem dX8_init_73 : decode cX8_init 73 = .ok (.iconst 3, 1) := by decide +kernel
theorem dX8_init_74 : decode cX8_init 74 = .ok (.bipush 110, 2) := by decide +kernel
theorem dX8_init_76 : decode cX8_init 76 = .ok (.castore, 1) := by decide +kernel
theorem dX8_init_77 : decode cX8_init 77 = .ok (.dup, 1) := by decide +kernel
theorem dX8_init_78 : decode cX8_init 78 = .ok (.iconst 4, 1) := by decide +kernel
theorem dX8_init_79 : decode cX8_init 79 = .ok (.bipush 101, 2) := by decide +kernel
theorem dX8_init_81 : decode cX8_init 81 = .ok (.castore, 1) := by decide +kernel
theorem dX8_init_82 : decode cX8_init 82 = .ok (.dup, 1) := by decide +kernel
theorem dX8_init_83 : decode cX8_init 83 = .ok (.iconst 5, 1) := by decide +kernel
theorem dX8_init_84 : decode cX8_init 84 = .ok (.bipush 102, 2) := by decide +kernel
theorem dX8_init_86 : decode cX8_init 86 = .ok (.castore, 1) := by decide +kernel
theorem dX8_init_87 : decode cX8_init 87 = .ok (.dup, 1) := by decide +kernel
theorem dX8_init_88 : decode cX8_init 88 = .ok (.bipush 6, 2) := by decide +kernel
theorem dX8_init_90 : decode cX8_init 90 = .ok (.bipush 101, 2) := by decide +kernel
theorem dX8_init_92 : decode cX8_init 92 = .ok (.castore, 1) := by decide +kernel
theorem dX8_init_93 : decode cX8_init 93 = .ok (.dup, 1) := by decide +kernel
theorem dX8_init_94 : decode cX8_init 94 = .ok (.bipush 7, 2) := by decide +kernel
theorem dX8_init_96 : decode cX8_init 96 = .ok (.bipush 101, 2) := by decide +kernel
theorem dX8_init_98 : decode cX8_init 98 = .ok (.castore, 1) := by decide +kernel
theorem dX8_init_99 : decode cX8_init 99 = .ok (.dup, 1) := by decide +kernel
theorem dX8_init_100 : decode cX8_init 100 = .ok (.bipush 8, 2) := by decide +kernel
theorem dX8_init_102 : decode cX8_init 102 = .ok (.bipush 102, 2) := by decide +kernel
theorem dX8_init_104 : decode cX8_init 104 = .ok (.castore, 1) := by decide +kernel
theorem dX8_init_105 : decode cX8_init 105 = .ok (.dup, 1) := by decide +kernel
theorem dX8_init_106 : decode cX8_init 106 = .ok (.bipush 9, 2) := by decide +kernel
theorem dX8_init_108 : decode cX8_init 108 = .ok (.bipush 105, 2) := by decide +kernel
theorem dX8_init_110 : decode cX8_init 110 = .ok (.castore, 1) := by decide +kernel
theorem dX8_init_111 : decode cX8_init 111 = .ok (.dup, 1) := by decide +kernel
theorem dX8_init_112 : decode cX8_init 112 = .ok (.bipush 10, 2) := by decide +kernel
theorem dX8_init_114 : decode cX8_init 114 = .ok (.bipush 110, 2) := by decide +kernel
theorem dX8_init_116 : decode cX8_init 116 = .ok (.castore, 1) := by decide +kernel
theorem dX8_init_117 : decode cX8_init 117 = .ok (.dup, 1) := by decide +kernel
theorem dX8_init_118 : decode cX8_init 118 = .ok (.bipush 11, 2) := by decide +kernel
theorem dX8_init_120 : decode cX8_init 120 = .ok (.bipush 101, 2) := by decide +kernel
theorem dX8_init_122 : decode cX8_init 122 = .ok (.castore, 1) := by decide +kernel
theorem dX8_init_123 : decode cX8_init 123 = .ok (.putfield 29, 3) := by decide +kernel
theorem dX8_init_126 : decode cX8_init 126 = .ok (.aload_n 0, 1) := by decide +kernel
theorem dX8_init_127 : decode cX8_init 127 = .ok (.iconst 4, 1) := by decide +kernel
theorem dX8_init_128 : decode cX8_init 128 = .ok (.newarray .int, 2) := by decide +kernel
theorem dX8_init_130 : decode cX8_init 130 = .ok (.dup, 1) := by decide +kernel
theorem dX8_init_131 : decode cX8_init 131 = .ok (.iconst 0, 1) := by decide +kernel
theorem dX8_init_132 : decode cX8_init 132 = .ok (.iconst 0, 1) := by decide +kernel
theorem dX8_init_133 : decode cX8_init 133 = .ok (.iastore, 1) := by decide +kernel
theorem dX8_init_134 : decode cX8_init 134 = .ok (.dup, 1) := by decide +kernel
theorem dX8_init_135 : decode cX8_init 135 = .ok (.iconst 1, 1) := by decide +kernel
theorem dX8_init_136 : decode cX8_init 136 = .ok (.iconst 5, 1) := by decide +kernel
theorem dX8_init_137 : decode cX8_init 137 = .ok (.iastore, 1) := by decide +kernel
theorem dX8_init_138 : decode cX8_init 138 = .ok (.dup, 1) := by decide +kernel
theorem dX8_init_139 : decode cX8_init 139 = .ok (.iconst 2, 1) := by decide +kernel
theorem dX8_init_140 : decode cX8_init 140 = .ok (.bipush 8, 2) := by decide +kernel
theorem dX8_init_142 : decode cX8_init 142 = .ok (.iastore, 1) := by decide +kernel
theorem dX8_init_143 : decode cX8_init 143 = .ok (.dup, 1) := by decide +kernel
theorem dX8_init_144 : decode cX8_init 144 = .ok (.iconst 3, 1) := by decide +kernel
theorem dX8_init_145 : decode cX8_init 145 = .ok (.bipush 12, 2) := by decide +kernel
theorem dX8_init_147 : decode cX8_init 147 = .ok (.iastore, 1) := by decide +kernel
theorem dX8_init_148 : decode cX8_init 148 = .ok (.putfield 33, 3) := by decide +kernel
theorem dX8_init_151 : decode cX8_init 151 = .ok (.aload_n 0, 1) := by decide +kernel
theorem dX8_init_152 : decode cX8_init 152 = .ok (.bipush 96, 2) := by decide +kernel
theorem dX8_init_154 : decode cX8_init 154 = .ok (.newarray .int, 2) := by decide +kernel
theorem dX8_init_156 : decode cX8_init 156 = .ok (.putfield 36, 3) := by decide +kernel
theorem dX8_init_159 : decode cX8_init 159 = .ok (.aload_n 0, 1) := by decide +kernel
theorem dX8_init_160 : decode cX8_init 160 = .ok (.bipush 96, 2) := by decide +kernel
theorem dX8_init_162 : decode cX8_init 162 = .ok (.newarray .int, 2) := by decide +kernel
theorem dX8_init_164 : decode cX8_init 164 = .ok (.putfield 39, 3) := by decide +kernel
theorem dX8_init_167 : decode cX8_init 167 = .ok (.aload_n 0, 1) := by decide +kernel
theorem dX8_init_168 : decode cX8_init 168 = .ok (.bipush 10, 2) := by decide +kernel
theorem dX8_init_170 : decode cX8_init 170 = .ok (.newarray .boolean, 2) := by decide +kernel
theorem dX8_init_172 : decode cX8_init 172 = .ok (.putfield 42, 3) := by decide +kernel
theorem dX8_init_175 : decode cX8_init 175 = .ok (.aload_n 0, 1) := by decide +kernel
theorem dX8_init_176 : decode cX8_init 176 = .ok (.bipush 96, 2) := by decide +kernel
theorem dX8_init_178 : decode cX8_init 178 = .ok (.newarray .int, 2) := by decide +kernel
theorem dX8_init_180 : decode cX8_init 180 = .ok (.putfield 46, 3) := by decide +kernel
theorem dX8_init_183 : decode cX8_init 183 = .ok (.aload_n 0, 1) := by decide +kernel
theorem dX8_init_184 : decode cX8_init 184 = .ok (.iconst 4, 1) := by decide +kernel
theorem dX8_init_185 : decode cX8_init 185 = .ok (.newarray .int, 2) := by decide +kernel
theorem dX8_init_187 : decode cX8_init 187 = .ok (.putfield 49, 3) := by decide +kernel
theorem dX8_init_190 : decode cX8_init 190 = .ok (.aload_n 0, 1) := by decide +kernel
theorem dX8_init_191 : decode cX8_init 191 = .ok (.iconst 4, 1) := by decide +kernel
theorem dX8_init_192 : decode cX8_init 192 = .ok (.newarray .int, 2) := by decide +kernel
theorem dX8_init_194 : decode cX8_init 194 = .ok (.dup, 1) := by decide +kernel
theorem dX8_init_195 : decode cX8_init 195 = .ok (.iconst 0, 1) := by decide +kernel
theorem dX8_init_196 : decode cX8_init 196 = .ok (.iconst (-1), 1) := by decide +kernel
theorem dX8_init_197 : decode cX8_init 197 = .ok (.iastore, 1) := by decide +kernel
theorem dX8_init_198 : decode cX8_init 198 = .ok (.dup, 1) := by decide +kernel
theorem dX8_init_199 : decode cX8_init 199 = .ok (.iconst 1, 1) := by decide +kernel
theorem dX8_init_200 : decode cX8_init 200 = .ok (.iconst (-1), 1) := by decide +kernel
theorem dX8_init_201 : decode cX8_init 201 = .ok (.iastore, 1) := by decide +kernel
theorem dX8_init_202 : decode cX8_init 202 = .ok (.dup, 1) := by decide +kernel
theorem dX8_init_203 : decode cX8_init 203 = .ok (.iconst 2, 1) := by decide +kernel
theorem dX8_init_204 : decode cX8_init 204 = .ok (.iconst (-1), 1) := by decide +kernel
theorem dX8_init_205 : decode cX8_init 205 = .ok (.iastore, 1) := by decide +kernel
theorem dX8_init_206 : decode cX8_init 206 = .ok (.dup, 1) := by decide +kernel
theorem dX8_init_207 : decode cX8_init 207 = .ok (.iconst 3, 1) := by decide +kernel
theorem dX8_init_208 : decode cX8_init 208 = .ok (.iconst (-1), 1) := by decide +kernel
theorem dX8_init_209 : decode cX8_init 209 = .ok (.iastore, 1) := by decide +kernel
theorem dX8_init_210 : decode cX8_init 210 = .ok (.putfield 52, 3) := by decide +kernel
theorem dX8_init_213 : decode cX8_init 213 = .ok (.aload_n 0, 1) := by decide +kernel
theorem dX8_init_214 : decode cX8_init 214 = .ok (.iconst 4, 1) := by decide +kernel
theorem dX8_init_215 : decode cX8_init 215 = .ok (.newarray .int, 2) := by decide +kernel
theorem dX8_init_217 : decode cX8_init 217 = .ok (.putfield 55, 3) := by decide +kernel
theorem dX8_init_220 : decode cX8_init 220 = .ok (.aload_n 0, 1) := by decide +kernel
theorem dX8_init_221 : decode cX8_init 221 = .ok (.bipush 96, 2) := by decide +kernel
theorem dX8_init_223 : decode cX8_init 223 = .ok (.newarray .int, 2) := by decide +kernel
theorem dX8_init_225 : decode cX8_init 225 = .ok (.putfield 58, 3) := by decide +kernel
theorem dX8_init_228 : decode cX8_init 228 = .ok (.aload_n 0, 1) := by decide +kernel
theorem dX8_init_229 : decode cX8_init 229 = .ok (.iconst 5, 1) := by decide +kernel
theorem dX8_init_230 : decode cX8_init 230 = .ok (.newarray .int, 2) := by decide +kernel
theorem dX8_init_232 : decode cX8_init 232 = .ok (.putfield 61, 3) := by decide +kernel
theorem dX8_init_235 : decode cX8_init 235 = .ok (.aload_n 0, 1) := by decide +kernel
theorem dX8_init_236 : decode cX8_init 236 = .ok (.iconst 5, 1) := by decide +kernel
theorem dX8_init_237 : decode cX8_init 237 = .ok (.newarray .int, 2) := by decide +kernel
theorem dX8_init_239 : decode cX8_init 239 = .ok (.putfield 64, 3) := by decide +kernel
theorem dX8_init_242 : decode cX8_init 242 = .ok (.aload_n 0, 1) := by decide +kernel
theorem dX8_init_243 : decode cX8_init 243 = .ok (.iconst 5, 1) := by decide +kernel
theorem dX8_init_244 : decode cX8_init 244 = .ok (.newarray .int, 2) := by decide +kernel
theorem dX8_init_246 : decode cX8_init 246 = .ok (.putfield 67, 3) := by decide +kernel
theorem dX8_init_249 : decode cX8_init 249 = .ok (.aload_n 0, 1) := by decide +kernel
theorem dX8_init_250 : decode cX8_init 250 = .ok (.bipush 120, 2) := by decide +kernel
theorem dX8_init_252 : decode cX8_init 252 = .ok (.newarray .int, 2) := by decide +kernel
theorem dX8_init_254 : decode cX8_init 254 = .ok (.putfield 70, 3) := by decide +kernel
theorem dX8_init_257 : decode cX8_init 257 = .ok (.aload_n 0, 1) := by decide +kernel
theorem dX8_init_258 : decode cX8_init 258 = .ok (.bipush 24, 2) := by decide +kernel
theorem dX8_init_260 : decode cX8_init 260 = .ok (.newarray .int, 2) := by decide +kernel
theorem dX8_init_262 : decode cX8_init 262 = .ok (.putfield 73, 3) := by decide +kernel
theorem dX8_init_265 : decode cX8_init 265 = .ok (.aload_n 0, 1) := by decide +kernel
theorem dX8_init_266 : decode cX8_init 266 = .ok (.bipush 60, 2) := by decide +kernel
theorem dX8_init_268 : decode cX8_init 268 = .ok (.newarray .int, 2) := by decide +kernel
theorem dX8_init_270 : decode cX8_init 270 = .ok (.putfield 76, 3) := by decide +kernel
theorem dX8_init_273 : decode cX8_init 273 = .ok (.aload_n 0, 1) := by decide +kernel
theorem dX8_init_274 : decode cX8_init 274 = .ok (.getfield 9, 3) := by decide +kernel
theorem dX8_init_277 : decode cX8_init 277 = .ok (.iconst 0, 1) := by decide +kernel
theorem dX8_init_278 : decode cX8_init 278 = .ok (.iconst 1, 1) := by decide +kernel
theorem dX8_init_279 : decode cX8_init 279 = .ok (.iastore, 1) := by decide +kernel
theorem dX8_init_280 : decode cX8_init 280 = .ok (.aload_n 0, 1) := by decide +kernel
theorem dX8_init_281 : decode cX8_init 281 = .ok (.getfield 9, 3) := by decide +kernel
theorem dX8_init_284 : decode cX8_init 284 = .ok (.iconst 4, 1) := by decide +kernel
theorem dX8_init_285 : decode cX8_init 285 = .ok (.bipush 20, 2) := by decide +kernel
theorem dX8_init_287 : decode cX8_init 287 = .ok (.iastore, 1) := by decide +kernel
theorem dX8_init_288 : decode cX8_init 288 = .ok (.return_, 1) := by decide +kernel
theorem dX8_in_0 : decode cX8_in 0 = .ok (.iload_n 0, 1) := by decide +kernel
theorem dX8_in_1 : decode cX8_in 1 = .ok (.iload_n 1, 1) := by decide +kernel
theorem dX8_in_2 : decode cX8_in 2 = .ok (.if_icmp .lt 12, 3) := by decide +kernel
theorem dX8_in_5 : decode cX8_in 5 = .ok (.iload_n 0, 1) := by decide +kernel
theorem dX8_in_6 : decode cX8_in 6 = .ok (.iload_n 2, 1) := by decide +kernel
theorem dX8_in_7 : decode cX8_in 7 = .ok (.if_icmp .gt 7, 3) := by decide +kernel
theorem dX8_in_10 : decode cX8_in 10 = .ok (.iconst 1, 1) := by decide +kernel
theorem dX8_in_11 : decode cX8_in 11 = .ok (.goto 4, 3) := by decide +kernel
theorem dX8_in_14 : decode cX8_in 14 = .ok (.iconst 0, 1) := by decide +kernel
theorem dX8_in_15 : decode cX8_in 15 = .ok (.ireturn, 1) := by decide +kernel
theorem dX8_within_0 : decode cX8_within 0 = .ok (.iload_n 0, 1) := by decide +kernel
theorem dX8_within_1 : decode cX8_within 1 = .ok (.iload_n 1, 1) := by decide +kernel
theorem dX8_within_2 : decode cX8_within 2 = .ok (.if_icmp .ge 7, 3) := by decide +kernel
theorem dX8_within_5 : decode cX8_within 5 = .ok (.iload_n 1, 1) := by decide +kernel
theorem dX8_within_6 : decode cX8_within 6 = .ok (.goto 13, 3) := by decide +kernel
theorem dX8_within_9 : decode cX8_within 9 = .ok (.iload_n 0, 1) := by decide +kernel
theorem dX8_within_10 : decode cX8_within 10 = .ok (.iload_n 2, 1) := by decide +kernel
theorem dX8_within_11 : decode cX8_within 11 = .ok (.if_icmp .le 7, 3) := by decide +kernel
theorem dX8_within_14 : decode cX8_within 14 = .ok (.iload_n 2, 1) := by decide +kernel
theorem dX8_within_15 : decode cX8_within 15 = .ok (.goto 4, 3) := by decide +kernel
theorem dX8_within_18 : decode cX8_within 18 = .ok (.iload_n 0, 1) := by decide +kernel
theorem dX8_within_19 : decode cX8_within 19 = .ok (.ireturn, 1) := by decide +kernel
theorem dX8_copyAll_0 : decode cX8_copyAll 0 = .ok (.iconst 0, 1) := by decide +kernel
theorem dX8_copyAll_1 : decode cX8_copyAll 1 = .ok (.istore_n 2, 1) := by decide +kernel
theorem dX8_copyAll_2 : decode cX8_copyAll 2 = .ok (.iload_n 2, 1) := by decide +kernel
theorem dX8_copyAll_3 : decode cX8_copyAll 3 = .ok (.sipush 1437, 3) := by decide +kernel
theorem dX8_copyAll_6 : decode cX8_copyAll 6 = .ok (.if_icmp .ge 15, 3) := by decide +kernel
theorem dX8_copyAll_9 : decode cX8_copyAll 9 = .ok (.aload_n 1, 1) := by decide +kernel
theorem dX8_copyAll_10 : decode cX8_copyAll 10 = .ok (.iload_n 2, 1) := by decide +kernel
theorem dX8_copyAll_11 : decode cX8_copyAll 11 = .ok (.aload_n 0, 1) := by decide +kernel
theorem dX8_copyAll_12 : decode cX8_copyAll 12 = .ok (.iload_n 2, 1) := by decide +kernel
theorem dX8_copyAll_13 : decode cX8_copyAll 13 = .ok (.iaload, 1) := by decide +kernel
theorem dX8_copyAll_14 : decode cX8_copyAll 14 = .ok (.iastore, 1) := by decide +kernel
theorem dX8_copyAll_15 : decode cX8_copyAll 15 = .ok (.iinc 2 1, 3) := by decide +kernel
theorem dX8_copyAll_18 : decode cX8_copyAll 18 = .ok (.goto (-16), 3) := by decide +kernel
theorem dX8_copyAll_21 : decode cX8_copyAll 21 = .ok (.return_, 1) := by decide +kernel
theorem dX8_told0_0 : decode cX8_told0 0 = .ok (.iload_n 0, 1) := by decide +kernel
theorem dX8_told0_1 : decode cX8_told0 1 = .ok (.ifCond .ge 8, 3) := by decide +kernel
theorem dX8_told0_4 : decode cX8_told0 4 = .ok (.ldc 79, 2) := by decide +kernel
theorem dX8_told0_6 : decode cX8_told0 6 = .ok (.goto 4, 3) := by decide +kernel
theorem dX8_told0_9 : decode cX8_told0 9 = .ok (.iload_n 0, 1) := by decide +kernel
theorem dX8_told0_10 : decode cX8_told0 10 = .ok (.ireturn, 1) := by decide +kernel
theorem dX8_isBoy_0 : decode cX8_isBoy 0 = .ok (.iload_n 1, 1) := by decide +kernel
theorem dX8_isBoy_1 : decode cX8_isBoy 1 = .ok (.iconst 0, 1) := by decide +kernel
theorem dX8_isBoy_2 : decode cX8_isBoy 2 = .ok (.aload_n 0, 1) := by decide +kernel
theorem dX8_isBoy_3 : decode cX8_isBoy 3 = .ok (.getfield 9, 3) := by decide +kernel
theorem dX8_isBoy_6 : decode cX8_isBoy 6 = .ok (.iconst 1, 1) := by decide +kernel
theorem dX8_isBoy_7 : decode cX8_isBoy 7 = .ok (.iaload, 1) := by decide +kernel
theorem dX8_isBoy_8 : decode cX8_isBoy 8 = .ok (.iconst 1, 1) := by decide +kernel
theorem dX8_isBoy_9 : decode cX8_isBoy 9 = .ok (.isub, 1) := by decide +kernel
theorem dX8_isBoy_10 : decode cX8_isBoy 10 = .ok (.invokestatic 80, 3) := by decide +kernel
theorem dX8_isBoy_13 : decode cX8_isBoy 13 = .ok (.ireturn, 1) := by decide +kernel
theorem dX8_of_0 : decode cX8_of 0 = .ok (.aload_n 0, 1) := by decide +kernel
theorem dX8_of_1 : decode cX8_of 1 = .ok (.getfield 9, 3) := by decide +kernel
theorem dX8_of_4 : decode cX8_of 4 = .ok (.bipush 9, 2) := by decide +kernel
theorem dX8_of_6 : decode cX8_of 6 = .ok (.bipush 7, 2) := by decide +kernel
theorem dX8_of_8 : decode cX8_of 8 = .ok (.iload_n 1, 1) := by decide +kernel
theorem dX8_of_9 : decode cX8_of 9 = .ok (.imul, 1) := by decide +kernel
theorem dX8_of_10 : decode cX8_of 10 = .ok (.iadd, 1) := by decide +kernel
theorem dX8_of_11 : decode cX8_of 11 = .ok (.iload_n 2, 1) := by decide +kernel
theorem dX8_of_12 : decode cX8_of 12 = .ok (.iadd, 1) := by decide +kernel
theorem dX8_of_13 : decode cX8_of 13 = .ok (.iaload, 1) := by decide +kernel
theorem dX8_of_14 : decode cX8_of 14 = .ok (.ireturn, 1) := by decide +kernel
theorem dX8_put_0 : decode cX8_put 0 = .ok (.aload_n 0, 1) := by decide +kernel
theorem dX8_put_1 : decode cX8_put 1 = .ok (.getfield 9, 3) := by decide +kernel
theorem dX8_put_4 : decode cX8_put 4 = .ok (.bipush 9, 2) := by decide +kernel
theorem dX8_put_6 : decode cX8_put 6 = .ok (.bipush 7, 2) := by decide +kernel
theorem dX8_put_8 : decode cX8_put 8 = .ok (.iload_n 1, 1) := by decide +kernel
theorem dX8_put_9 : decode cX8_put 9 = .ok (.imul, 1) := by decide +kernel
theorem dX8_put_10 : decode cX8_put 10 = .ok (.iadd, 1) := by decide +kernel
theorem dX8_put_11 : decode cX8_put 11 = .ok (.iload_n 2, 1) := by decide +kernel
theorem dX8_put_12 : decode cX8_put 12 = .ok (.iadd, 1) := by decide +kernel
theorem dX8_put_13 : decode cX8_put 13 = .ok (.iload_n 3, 1) := by decide +kernel
theorem dX8_put_14 : decode cX8_put 14 = .ok (.iastore, 1) := by decide +kernel
theorem dX8_put_15 : decode cX8_put 15 = .ok (.return_, 1) := by decide +kernel
theorem dX8_becomes_0 : decode cX8_becomes 0 = .ok (.aload_n 0, 1) := by decide +kernel
theorem dX8_becomes_1 : decode cX8_becomes 1 = .ok (.getfield 9, 3) := by decide +kernel
theorem dX8_becomes_4 : decode cX8_becomes 4 = .ok (.iload_n 1, 1) := by decide +kernel
theorem dX8_becomes_5 : decode cX8_becomes 5 = .ok (.iaload, 1) := by decide +kernel
theorem dX8_becomes_6 : decode cX8_becomes 6 = .ok (.istore_n 3, 1) := by decide +kernel
theorem dX8_becomes_7 : decode cX8_becomes 7 = .ok (.aload_n 0, 1) := by decide +kernel
theorem dX8_becomes_8 : decode cX8_becomes 8 = .ok (.getfield 9, 3) := by decide +kernel
theorem dX8_becomes_11 : decode cX8_becomes 11 = .ok (.iload_n 1, 1) := by decide +kernel
theorem dX8_becomes_12 : decode cX8_becomes 12 = .ok (.iload_n 2, 1) := by decide +kernel
theorem dX8_becomes_13 : decode cX8_becomes 13 = .ok (.iastore, 1) := by decide +kernel
theorem dX8_becomes_14 : decode cX8_becomes 14 = .ok (.iload_n 3, 1) := by decide +kernel
theorem dX8_becomes_15 : decode cX8_becomes 15 = .ok (.ireturn, 1) := by decide +kernel
theorem dX8_comes_0 : decode cX8_comes 0 = .ok (.aload_n 0, 1) := by decide +kernel
theorem dX8_comes_1 : decode cX8_comes 1 = .ok (.getfield 9, 3) := by decide +kernel
theorem dX8_comes_4 : decode cX8_comes 4 = .ok (.iconst 1, 1) := by decide +kernel
theorem dX8_comes_5 : decode cX8_comes 5 = .ok (.iaload, 1) := by decide +kernel
theorem dX8_comes_6 : decode cX8_comes 6 = .ok (.istore 5, 2) := by decide +kernel
theorem dX8_comes_8 : decode cX8_comes 8 = .ok (.aload_n 0, 1) := by decide +kernel
theorem dX8_comes_9 : decode cX8_comes 9 = .ok (.iload 5, 2) := by decide +kernel
theorem dX8_comes_11 : decode cX8_comes 11 = .ok (.iconst 0, 1) := by decide +kernel
theorem dX8_comes_12 : decode cX8_comes 12 = .ok (.iload_n 1, 1) := by decide +kernel
theorem dX8_comes_13 : decode cX8_comes 13 = .ok (.invokevirtual 84, 3) := by decide +kernel
theorem dX8_comes_16 : decode cX8_comes 16 = .ok (.aload_n 0, 1) := by decide +kernel
theorem dX8_comes_17 : decode cX8_comes 17 = .ok (.iload 5, 2) := by decide +kernel
theorem dX8_comes_19 : decode cX8_comes 19 = .ok (.iconst 1, 1) := by decide +kernel
theorem dX8_comes_20 : decode cX8_comes 20 = .ok (.iload_n 2, 1) := by decide +kernel
theorem dX8_comes_21 : decode cX8_comes 21 = .ok (.invokevirtual 84, 3) := by decide +kernel
theorem dX8_comes_24 : decode cX8_comes 24 = .ok (.aload_n 0, 1) := by decide +kernel
theorem dX8_comes_25 : decode cX8_comes 25 = .ok (.iload 5, 2) := by decide +kernel
theorem dX8_comes_27 : decode cX8_comes 27 = .ok (.iconst 2, 1) := by decide +kernel
theorem dX8_comes_28 : decode cX8_comes 28 = .ok (.iload_n 3, 1) := by decide +kernel
theorem dX8_comes_29 : decode cX8_comes 29 = .ok (.invokevirtual 84, 3) := by decide +kernel
theorem dX8_comes_32 : decode cX8_comes 32 = .ok (.aload_n 0, 1) := by decide +kernel
theorem dX8_comes_33 : decode cX8_comes 33 = .ok (.iload 5, 2) := by decide +kernel
theorem dX8_comes_35 : decode cX8_comes 35 = .ok (.iconst 3, 1) := by decide +kernel
theorem dX8_comes_36 : decode cX8_comes 36 = .ok (.iload 4, 2) := by decide +kernel
theorem dX8_comes_38 : decode cX8_comes 38 = .ok (.invokevirtual 84, 3) := by decide +kernel
theorem dX8_comes_41 : decode cX8_comes 41 = .ok (.aload_n 0, 1) := by decide +kernel
theorem dX8_comes_42 : decode cX8_comes 42 = .ok (.iload 5, 2) := by decide +kernel
theorem dX8_comes_44 : decode cX8_comes 44 = .ok (.iconst 4, 1) := by decide +kernel
theorem dX8_comes_45 : decode cX8_comes 45 = .ok (.iconst 0, 1) := by decide +kernel
theorem dX8_comes_46 : decode cX8_comes 46 = .ok (.invokevirtual 84, 3) := by decide +kernel
theorem dX8_comes_49 : decode cX8_comes 49 = .ok (.aload_n 0, 1) := by decide +kernel
theorem dX8_comes_50 : decode cX8_comes 50 = .ok (.iload 5, 2) := by decide +kernel
theorem dX8_comes_52 : decode cX8_comes 52 = .ok (.iconst 5, 1) := by decide +kernel
theorem dX8_comes_53 : decode cX8_comes 53 = .ok (.iconst 0, 1) := by decide +kernel
theorem dX8_comes_54 : decode cX8_comes 54 = .ok (.invokevirtual 84, 3) := by decide +kernel
theorem dX8_comes_57 : decode cX8_comes 57 = .ok (.aload_n 0, 1) := by decide +kernel
theorem dX8_comes_58 : decode cX8_comes 58 = .ok (.iload 5, 2) := by decide +kernel
theorem dX8_comes_60 : decode cX8_comes 60 = .ok (.bipush 6, 2) := by decide +kernel
theorem dX8_comes_62 : decode cX8_comes 62 = .ok (.iconst 0, 1) := by decide +kernel
theorem dX8_comes_63 : decode cX8_comes 63 = .ok (.invokevirtual 84, 3) := by decide +kernel
theorem dX8_comes_66 : decode cX8_comes 66 = .ok (.aload_n 0, 1) := by decide +kernel
theorem dX8_comes_67 : decode cX8_comes 67 = .ok (.getfield 9, 3) := by decide +kernel
theorem dX8_comes_70 : decode cX8_comes 70 = .ok (.iconst 1, 1) := by decide +kernel
theorem dX8_comes_71 : decode cX8_comes 71 = .ok (.dup2, 1) := by decide +kernel
theorem dX8_comes_72 : decode cX8_comes 72 = .ok (.iaload, 1) := by decide +kernel
theorem dX8_comes_73 : decode cX8_comes 73 = .ok (.iconst 1, 1) := by decide +kernel
theorem dX8_comes_74 : decode cX8_comes 74 = .ok (.iadd, 1) := by decide +kernel
theorem dX8_comes_75 : decode cX8_comes 75 = .ok (.iastore, 1) := by decide +kernel
theorem dX8_comes_76 : decode cX8_comes 76 = .ok (.iload 5, 2) := by decide +kernel
theorem dX8_comes_78 : decode cX8_comes 78 = .ok (.ireturn, 1) := by decide +kernel
theorem dX8_isOf_0 : decode cX8_isOf 0 = .ok (.iload_n 1, 1) := by decide +kernel
theorem dX8_isOf_1 : decode cX8_isOf 1 = .ok (.iload_n 0, 1) := by decide +kernel
theorem dX8_isOf_2 : decode cX8_isOf 2 = .ok (.iconst 1, 1) := by decide +kernel
theorem dX8_isOf_3 : decode cX8_isOf 3 = .ok (.if_icmp .ne 7, 3) := by decide +kernel
theorem dX8_isOf_6 : decode cX8_isOf 6 = .ok (.iconst 0, 1) := by decide +kernel
theorem dX8_isOf_7 : decode cX8_isOf 7 = .ok (.goto 4, 3) := by decide +kernel
theorem dX8_isOf_10 : decode cX8_isOf 10 = .ok (.iconst 1, 1) := by decide +kernel
theorem dX8_isOf_11 : decode cX8_isOf 11 = .ok (.iload_n 0, 1) := by decide +kernel
theorem dX8_isOf_12 : decode cX8_isOf 12 = .ok (.iconst 1, 1) := by decide +kernel
theorem dX8_isOf_13 : decode cX8_isOf 13 = .ok (.if_icmp .ne 8, 3) := by decide +kernel
theorem dX8_isOf_16 : decode cX8_isOf 16 = .ok (.bipush 9, 2) := by decide +kernel
theorem dX8_isOf_18 : decode cX8_isOf 18 = .ok (.goto 15, 3) := by decide +kernel
theorem dX8_isOf_21 : decode cX8_isOf 21 = .ok (.iload_n 0, 1) := by decide +kernel
theorem dX8_isOf_22 : decode cX8_isOf 22 = .ok (.iconst 2, 1) := by decide +kernel
theorem dX8_isOf_23 : decode cX8_isOf 23 = .ok (.if_icmp .ne 8, 3) := by decide +kernel
theorem dX8_isOf_26 : decode cX8_isOf 26 = .ok (.bipush 99, 2) := by decide +kernel
theorem dX8_isOf_28 : decode cX8_isOf 28 = .ok (.goto 5, 3) := by decide +kernel
theorem dX8_isOf_31 : decode cX8_isOf 31 = .ok (.bipush 20, 2) := by decide +kernel
theorem dX8_isOf_33 : decode cX8_isOf 33 = .ok (.invokestatic 80, 3) := by decide +kernel
theorem dX8_isOf_36 : decode cX8_isOf 36 = .ok (.ireturn, 1) := by decide +kernel
theorem dX8_boy_0 : decode cX8_boy 0 = .ok (.iload_n 1, 1) := by decide +kernel
theorem dX8_boy_1 : decode cX8_boy 1 = .ok (.iconst 0, 1) := by decide +kernel
theorem dX8_boy_2 : decode cX8_boy 2 = .ok (.iconst 5, 1) := by decide +kernel
theorem dX8_boy_3 : decode cX8_boy 3 = .ok (.invokestatic 80, 3) := by decide +kernel
theorem dX8_boy_6 : decode cX8_boy 6 = .ok (.ifCond .eq 28, 3) := by decide +kernel
theorem dX8_boy_9 : decode cX8_boy 9 = .ok (.iconst 1, 1) := by decide +kernel
theorem dX8_boy_10 : decode cX8_boy 10 = .ok (.iload_n 2, 1) := by decide +kernel
theorem dX8_boy_11 : decode cX8_boy 11 = .ok (.invokestatic 88, 3) := by decide +kernel
theorem dX8_boy_14 : decode cX8_boy 14 = .ok (.ifCond .eq 20, 3) := by decide +kernel
theorem dX8_boy_17 : decode cX8_boy 17 = .ok (.iconst 2, 1) := by decide +kernel
theorem dX8_boy_18 : decode cX8_boy 18 = .ok (.iload_n 3, 1) := by decide +kernel
theorem dX8_boy_19 : decode cX8_boy 19 = .ok (.invokestatic 88, 3) := by decide +kernel
theorem dX8_boy_22 : decode cX8_boy 22 = .ok (.ifCond .eq 12, 3) := by decide +kernel
theorem dX8_boy_25 : decode cX8_boy 25 = .ok (.iconst 3, 1) := by decide +kernel
theorem dX8_boy_26 : decode cX8_boy 26 = .ok (.iload 4, 2) := by decide +kernel
theorem dX8_boy_28 : decode cX8_boy 28 = .ok (.invokestatic 88, 3) := by decide +kernel
theorem dX8_boy_31 : decode cX8_boy 31 = .ok (.ifCond .ne 6, 3) := by decide +kernel
theorem dX8_boy_34 : decode cX8_boy 34 = .ok (.ldc 92, 2) := by decide +kernel
theorem dX8_boy_36 : decode cX8_boy 36 = .ok (.ireturn, 1) := by decide +kernel
theorem dX8_boy_37 : decode cX8_boy 37 = .ok (.aload_n 0, 1) := by decide +kernel
theorem dX8_boy_38 : decode cX8_boy 38 = .ok (.getfield 9, 3) := by decide +kernel
theorem dX8_boy_41 : decode cX8_boy 41 = .ok (.iconst 1, 1) := by decide +kernel
theorem dX8_boy_42 : decode cX8_boy 42 = .ok (.iaload, 1) := by decide +kernel
theorem dX8_boy_43 : decode cX8_boy 43 = .ok (.bipush 8, 2) := by decide +kernel
theorem dX8_boy_45 : decode cX8_boy 45 = .ok (.if_icmp .ne 8, 3) := by decide +kernel
theorem dX8_boy_48 : decode cX8_boy 48 = .ok (.ldc 93, 2) := by decide +kernel
theorem dX8_boy_50 : decode cX8_boy 50 = .ok (.goto 12, 3) := by decide +kernel
theorem dX8_boy_53 : decode cX8_boy 53 = .ok (.aload_n 0, 1) := by decide +kernel
theorem dX8_boy_54 : decode cX8_boy 54 = .ok (.iload_n 1, 1) := by decide +kernel
theorem dX8_boy_55 : decode cX8_boy 55 = .ok (.iload_n 2, 1) := by decide +kernel
theorem dX8_boy_56 : decode cX8_boy 56 = .ok (.iload_n 3, 1) := by decide +kernel
theorem dX8_boy_57 : decode cX8_boy 57 = .ok (.iload 4, 2) := by decide +kernel
theorem dX8_boy_59 : decode cX8_boy 59 = .ok (.invokevirtual 94, 3) := by decide +kernel
theorem dX8_boy_62 : decode cX8_boy 62 = .ok (.ireturn, 1) := by decide +kernel
theorem dX8_plainOf_0 : decode cX8_plainOf 0 = .ok (.aload_n 0, 1) := by decide +kernel
theorem dX8_plainOf_1 : decode cX8_plainOf 1 = .ok (.iconst 0, 1) := by decide +kernel
theorem dX8_plainOf_2 : decode cX8_plainOf 2 = .ok (.invokevirtual 98, 3) := by decide +kernel
theorem dX8_plainOf_5 : decode cX8_plainOf 5 = .ok (.istore 4, 2) := by decide +kernel
theorem dX8_plainOf_7 : decode cX8_plainOf 7 = .ok (.aload_n 0, 1) := by decide +kernel
theorem dX8_plainOf_8 : decode cX8_plainOf 8 = .ok (.getfield 49, 3) := by decide +kernel
theorem dX8_plainOf_11 : decode cX8_plainOf 11 = .ok (.iconst 0, 1) := by decide +kernel
theorem dX8_plainOf_12 : decode cX8_plainOf 12 = .ok (.iload_n 2, 1) := by decide +kernel
theorem dX8_plainOf_13 : decode cX8_plainOf 13 = .ok (.iastore, 1) := by decide +kernel
theorem dX8_plainOf_14 : decode cX8_plainOf 14 = .ok (.aload_n 0, 1) := by decide +kernel
theorem dX8_plainOf_15 : decode cX8_plainOf 15 = .ok (.getfield 49, 3) := by decide +kernel
theorem dX8_plainOf_18 : decode cX8_plainOf 18 = .ok (.iconst 1, 1) := by decide +kernel
theorem dX8_plainOf_19 : decode cX8_plainOf 19 = .ok (.iload_n 3, 1) := by decide +kernel
theorem dX8_plainOf_20 : decode cX8_plainOf 20 = .ok (.iastore, 1) := by decide +kernel
theorem dX8_plainOf_21 : decode cX8_plainOf 21 = .ok (.aload_n 0, 1) := by decide +kernel
theorem dX8_plainOf_22 : decode cX8_plainOf 22 = .ok (.getfield 49, 3) := by decide +kernel
theorem dX8_plainOf_25 : decode cX8_plainOf 25 = .ok (.iconst 2, 1) := by decide +kernel
theorem dX8_plainOf_26 : decode cX8_plainOf 26 = .ok (.aload_n 0, 1) := by decide +kernel
theorem dX8_plainOf_27 : decode cX8_plainOf 27 = .ok (.iload_n 1, 1) := by decide +kernel
theorem dX8_plainOf_28 : decode cX8_plainOf 28 = .ok (.iconst 1, 1) := by decide +kernel
theorem dX8_plainOf_29 : decode cX8_plainOf 29 = .ok (.invokevirtual 102, 3) := by decide +kernel
theorem dX8_plainOf_32 : decode cX8_plainOf 32 = .ok (.iastore, 1) := by decide +kernel
theorem dX8_plainOf_33 : decode cX8_plainOf 33 = .ok (.iload 4, 2) := by decide +kernel
theorem dX8_plainOf_35 : decode cX8_plainOf 35 = .ok (.ifCond .ge 19, 3) := by decide +kernel
theorem dX8_plainOf_38 : decode cX8_plainOf 38 = .ok (.bipush 100, 2) := by decide +kernel
theorem dX8_plainOf_40 : decode cX8_plainOf 40 = .ok (.bipush 60, 2) := by decide +kernel
theorem dX8_plainOf_42 : decode cX8_plainOf 42 = .ok (.iconst 1, 1) := by decide +kernel
theorem dX8_plainOf_43 : decode cX8_plainOf 43 = .ok (.iload_n 2, 1) := by decide +kernel
theorem dX8_plainOf_44 : decode cX8_plainOf 44 = .ok (.iadd, 1) := by decide +kernel
theorem dX8_plainOf_45 : decode cX8_plainOf 45 = .ok (.idiv, 1) := by decide +kernel
theorem dX8_plainOf_46 : decode cX8_plainOf 46 = .ok (.isub, 1) := by decide +kernel
theorem dX8_plainOf_47 : decode cX8_plainOf 47 = .ok (.iconst 3, 1) := by decide +kernel
theorem dX8_plainOf_48 : decode cX8_plainOf 48 = .ok (.iload_n 3, 1) := by decide +kernel
theorem dX8_plainOf_49 : decode cX8_plainOf 49 = .ok (.imul, 1) := by decide +kernel
theorem dX8_plainOf_50 : decode cX8_plainOf 50 = .ok (.isub, 1) := by decide +kernel
theorem dX8_plainOf_51 : decode cX8_plainOf 51 = .ok (.goto 9, 3) := by decide +kernel
theorem dX8_plainOf_54 : decode cX8_plainOf 54 = .ok (.aload_n 0, 1) := by decide +kernel
theorem dX8_plainOf_55 : decode cX8_plainOf 55 = .ok (.iload 4, 2) := by decide +kernel
theorem dX8_plainOf_57 : decode cX8_plainOf 57 = .ok (.invokevirtual 106, 3) := by decide +kernel
theorem dX8_plainOf_60 : decode cX8_plainOf 60 = .ok (.iconst 0, 1) := by decide +kernel
theorem dX8_plainOf_61 : decode cX8_plainOf 61 = .ok (.sipush 999, 3) := by decide +kernel
theorem dX8_plainOf_64 : decode cX8_plainOf 64 = .ok (.invokestatic 109, 3) := by decide +kernel
theorem dX8_plainOf_67 : decode cX8_plainOf 67 = .ok (.ireturn, 1) := by decide +kernel
theorem dX8_shineOf_0 : decode cX8_shineOf 0 = .ok (.aload_n 0, 1) := by decide +kernel
theorem dX8_shineOf_1 : decode cX8_shineOf 1 = .ok (.iload_n 1, 1) := by decide +kernel
theorem dX8_shineOf_2 : decode cX8_shineOf 2 = .ok (.iconst 0, 1) := by decide +kernel
theorem dX8_shineOf_3 : decode cX8_shineOf 3 = .ok (.invokevirtual 102, 3) := by decide +kernel
theorem dX8_shineOf_6 : decode cX8_shineOf 6 = .ok (.tableswitch 112 1 5 #[34, 51, 62, 81, 104], 34) := by decide +kernel
theorem dX8_shineOf_40 : decode cX8_shineOf 40 = .ok (.aload_n 0, 1) := by decide +kernel
theorem dX8_shineOf_41 : decode cX8_shineOf 41 = .ok (.iload_n 1, 1) := by decide +kernel
theorem dX8_shineOf_42 : decode cX8_shineOf 42 = .ok (.iload_n 2, 1) := by decide +kernel
theorem dX8_shineOf_43 : decode cX8_shineOf 43 = .ok (.iload_n 3, 1) := by decide +kernel
theorem dX8_shineOf_44 : decode cX8_shineOf 44 = .ok (.invokevirtual 113, 3) := by decide +kernel
theorem dX8_shineOf_47 : decode cX8_shineOf 47 = .ok (.iconst 5, 1) := by decide +kernel
theorem dX8_shineOf_48 : decode cX8_shineOf 48 = .ok (.isub, 1) := by decide +kernel
theorem dX8_shineOf_49 : decode cX8_shineOf 49 = .ok (.iconst 0, 1) := by decide +kernel
theorem dX8_shineOf_50 : decode cX8_shineOf 50 = .ok (.sipush 999, 3) := by decide +kernel
theorem dX8_shineOf_53 : decode cX8_shineOf 53 = .ok (.invokestatic 109, 3) := by decide +kernel
theorem dX8_shineOf_56 : decode cX8_shineOf 56 = .ok (.ireturn, 1) := by decide +kernel
theorem dX8_shineOf_57 : decode cX8_shineOf 57 = .ok (.aload_n 0, 1) := by decide +kernel
theorem dX8_shineOf_58 : decode cX8_shineOf 58 = .ok (.iload_n 1, 1) := by decide +kernel
theorem dX8_shineOf_59 : decode cX8_shineOf 59 = .ok (.iload_n 2, 1) := by decide +kernel
theorem dX8_shineOf_60 : decode cX8_shineOf 60 = .ok (.iload_n 3, 1) := by decide +kernel
theorem dX8_shineOf_61 : decode cX8_shineOf 61 = .ok (.invokevirtual 113, 3) := by decide +kernel
theorem dX8_shineOf_64 : decode cX8_shineOf 64 = .ok (.bipush 10, 2) := by decide +kernel
theorem dX8_shineOf_66 : decode cX8_shineOf 66 = .ok (.iadd, 1) := by decide +kernel
theorem dX8_shineOf_67 : decode cX8_shineOf 67 = .ok (.ireturn, 1) := by decide +kernel
theorem dX8_shineOf_68 : decode cX8_shineOf 68 = .ok (.aload_n 0, 1) := by decide +kernel
theorem dX8_shineOf_69 : decode cX8_shineOf 69 = .ok (.iload_n 1, 1) := by decide +kernel
theorem dX8_shineOf_70 : decode cX8_shineOf 70 = .ok (.iconst 2, 1) := by decide +kernel
theorem dX8_shineOf_71 : decode cX8_shineOf 71 = .ok (.iload_n 2, 1) := by decide +kernel
theorem dX8_shineOf_72 : decode cX8_shineOf 72 = .ok (.imul, 1) := by decide +kernel
theorem dX8_shineOf_73 : decode cX8_shineOf 73 = .ok (.iload_n 3, 1) := by decide +kernel
theorem dX8_shineOf_74 : decode cX8_shineOf 74 = .ok (.invokevirtual 113, 3) := by decide +kernel
theorem dX8_shineOf_77 : decode cX8_shineOf 77 = .ok (.iconst 5, 1) := by decide +kernel
theorem dX8_shineOf_78 : decode cX8_shineOf 78 = .ok (.isub, 1) := by decide +kernel
theorem dX8_shineOf_79 : decode cX8_shineOf 79 = .ok (.iconst 0, 1) := by decide +kernel
theorem dX8_shineOf_80 : decode cX8_shineOf 80 = .ok (.sipush 999, 3) := by decide +kernel
theorem dX8_shineOf_83 : decode cX8_shineOf 83 = .ok (.invokestatic 109, 3) := by decide +kernel
theorem dX8_shineOf_86 : decode cX8_shineOf 86 = .ok (.ireturn, 1) := by decide +kernel
theorem dX8_shineOf_87 : decode cX8_shineOf 87 = .ok (.aload_n 0, 1) := by decide +kernel
theorem dX8_shineOf_88 : decode cX8_shineOf 88 = .ok (.iload_n 1, 1) := by decide +kernel
theorem dX8_shineOf_89 : decode cX8_shineOf 89 = .ok (.iload_n 2, 1) := by decide +kernel
theorem dX8_shineOf_90 : decode cX8_shineOf 90 = .ok (.iload_n 3, 1) := by decide +kernel
theorem dX8_shineOf_91 : decode cX8_shineOf 91 = .ok (.invokevirtual 113, 3) := by decide +kernel
theorem dX8_shineOf_94 : decode cX8_shineOf 94 = .ok (.bipush 10, 2) := by decide +kernel
theorem dX8_shineOf_96 : decode cX8_shineOf 96 = .ok (.iadd, 1) := by decide +kernel
theorem dX8_shineOf_97 : decode cX8_shineOf 97 = .ok (.iload_n 2, 1) := by decide +kernel
theorem dX8_shineOf_98 : decode cX8_shineOf 98 = .ok (.bipush 12, 2) := by decide +kernel
theorem dX8_shineOf_100 : decode cX8_shineOf 100 = .ok (.if_icmp .le 7, 3) := by decide +kernel
theorem dX8_shineOf_103 : decode cX8_shineOf 103 = .ok (.iconst 2, 1) := by decide +kernel
theorem dX8_shineOf_104 : decode cX8_shineOf 104 = .ok (.goto 4, 3) := by decide +kernel
theorem dX8_shineOf_107 : decode cX8_shineOf 107 = .ok (.iconst 1, 1) := by decide +kernel
theorem dX8_shineOf_108 : decode cX8_shineOf 108 = .ok (.idiv, 1) := by decide +kernel
theorem dX8_shineOf_109 : decode cX8_shineOf 109 = .ok (.ireturn, 1) := by decide +kernel
theorem dX8_shineOf_110 : decode cX8_shineOf 110 = .ok (.aload_n 0, 1) := by decide +kernel
theorem dX8_shineOf_111 : decode cX8_shineOf 111 = .ok (.iload_n 1, 1) := by decide +kernel
theorem dX8_shineOf_112 : decode cX8_shineOf 112 = .ok (.iload_n 2, 1) := by decide +kernel
theorem dX8_shineOf_113 : decode cX8_shineOf 113 = .ok (.iconst 0, 1) := by decide +kernel
theorem dX8_shineOf_114 : decode cX8_shineOf 114 = .ok (.invokevirtual 113, 3) := by decide +kernel
theorem dX8_shineOf_117 : decode cX8_shineOf 117 = .ok (.ireturn, 1) := by decide +kernel
theorem dX8_shineOf_118 : decode cX8_shineOf 118 = .ok (.aload_n 0, 1) := by decide +kernel
theorem dX8_shineOf_119 : decode cX8_shineOf 119 = .ok (.iload_n 1, 1) := by decide +kernel
theorem dX8_shineOf_120 : decode cX8_shineOf 120 = .ok (.iload_n 2, 1) := by decide +kernel
theorem dX8_shineOf_121 : decode cX8_shineOf 121 = .ok (.iload_n 3, 1) := by decide +kernel
theorem dX8_shineOf_122 : decode cX8_shineOf 122 = .ok (.invokevirtual 113, 3) := by decide +kernel
theorem dX8_shineOf_125 : decode cX8_shineOf 125 = .ok (.ireturn, 1) := by decide +kernel
theorem dX8_takesOf_0 : decode cX8_takesOf 0 = .ok (.aload_n 0, 1) := by decide +kernel
theorem dX8_takesOf_1 : decode cX8_takesOf 1 = .ok (.iload_n 1, 1) := by decide +kernel
theorem dX8_takesOf_2 : decode cX8_takesOf 2 = .ok (.iconst 3, 1) := by decide +kernel
theorem dX8_takesOf_3 : decode cX8_takesOf 3 = .ok (.invokevirtual 102, 3) := by decide +kernel
theorem dX8_takesOf_6 : decode cX8_takesOf 6 = .ok (.istore_n 2, 1) := by decide +kernel
theorem dX8_takesOf_7 : decode cX8_takesOf 7 = .ok (.aload_n 0, 1) := by decide +kernel
theorem dX8_takesOf_8 : decode cX8_takesOf 8 = .ok (.iload_n 1, 1) := by decide +kernel
theorem dX8_takesOf_9 : decode cX8_takesOf 9 = .ok (.iconst 0, 1) := by decide +kernel
theorem dX8_takesOf_10 : decode cX8_takesOf 10 = .ok (.invokevirtual 102, 3) := by decide +kernel
theorem dX8_takesOf_13 : decode cX8_takesOf 13 = .ok (.tableswitch 50 1 4 #[31, 37, 43, 37], 31) := by decide +kernel
theorem dX8_takesOf_44 : decode cX8_takesOf 44 = .ok (.iconst 1, 1) := by decide +kernel
theorem dX8_takesOf_45 : decode cX8_takesOf 45 = .ok (.iload_n 2, 1) := by decide +kernel
theorem dX8_takesOf_46 : decode cX8_takesOf 46 = .ok (.iconst 4, 1) := by decide +kernel
theorem dX8_takesOf_47 : decode cX8_takesOf 47 = .ok (.idiv, 1) := by decide +kernel
theorem dX8_takesOf_48 : decode cX8_takesOf 48 = .ok (.iadd, 1) := by decide +kernel
theorem dX8_takesOf_49 : decode cX8_takesOf 49 = .ok (.ireturn, 1) := by decide +kernel
theorem dX8_takesOf_50 : decode cX8_takesOf 50 = .ok (.iconst 3, 1) := by decide +kernel
theorem dX8_takesOf_51 : decode cX8_takesOf 51 = .ok (.iload_n 2, 1) := by decide +kernel
theorem dX8_takesOf_52 : decode cX8_takesOf 52 = .ok (.iconst 2, 1) := by decide +kernel
theorem dX8_takesOf_53 : decode cX8_takesOf 53 = .ok (.idiv, 1) := by decide +kernel
theorem dX8_takesOf_54 : decode cX8_takesOf 54 = .ok (.iadd, 1) := by decide +kernel
theorem dX8_takesOf_55 : decode cX8_takesOf 55 = .ok (.ireturn, 1) := by decide +kernel
theorem dX8_takesOf_56 : decode cX8_takesOf 56 = .ok (.iconst 1, 1) := by decide +kernel
theorem dX8_takesOf_57 : decode cX8_takesOf 57 = .ok (.iload_n 2, 1) := by decide +kernel
theorem dX8_takesOf_58 : decode cX8_takesOf 58 = .ok (.bipush 6, 2) := by decide +kernel
theorem dX8_takesOf_60 : decode cX8_takesOf 60 = .ok (.idiv, 1) := by decide +kernel
theorem dX8_takesOf_61 : decode cX8_takesOf 61 = .ok (.iadd, 1) := by decide +kernel
theorem dX8_takesOf_62 : decode cX8_takesOf 62 = .ok (.ireturn, 1) := by decide +kernel
theorem dX8_takesOf_63 : decode cX8_takesOf 63 = .ok (.iconst 1, 1) := by decide +kernel
theorem dX8_takesOf_64 : decode cX8_takesOf 64 = .ok (.iload_n 2, 1) := by decide +kernel
theorem dX8_takesOf_65 : decode cX8_takesOf 65 = .ok (.iconst 2, 1) := by decide +kernel
theorem dX8_takesOf_66 : decode cX8_takesOf 66 = .ok (.idiv, 1) := by decide +kernel
theorem dX8_takesOf_67 : decode cX8_takesOf 67 = .ok (.iadd, 1) := by decide +kernel
theorem dX8_takesOf_68 : decode cX8_takesOf 68 = .ok (.ireturn, 1) := by decide +kernel
theorem dX8_asksOf_0 : decode cX8_asksOf 0 = .ok (.aload_n 0, 1) := by decide +kernel
theorem dX8_asksOf_1 : decode cX8_asksOf 1 = .ok (.iload_n 1, 1) := by decide +kernel
theorem dX8_asksOf_2 : decode cX8_asksOf 2 = .ok (.iconst 2, 1) := by decide +kernel
theorem dX8_asksOf_3 : decode cX8_asksOf 3 = .ok (.invokevirtual 102, 3) := by decide +kernel
theorem dX8_asksOf_6 : decode cX8_asksOf 6 = .ok (.istore_n 2, 1) := by decide +kernel
theorem dX8_asksOf_7 : decode cX8_asksOf 7 = .ok (.aload_n 0, 1) := by decide +kernel
theorem dX8_asksOf_8 : decode cX8_asksOf 8 = .ok (.iload_n 1, 1) := by decide +kernel
theorem dX8_asksOf_9 : decode cX8_asksOf 9 = .ok (.iconst 0, 1) := by decide +kernel
theorem dX8_asksOf_10 : decode cX8_asksOf 10 = .ok (.invokevirtual 102, 3) := by decide +kernel
theorem dX8_asksOf_13 : decode cX8_asksOf 13 = .ok (.tableswitch 54 2 5 #[31, 54, 35, 41], 31) := by decide +kernel
theorem dX8_asksOf_44 : decode cX8_asksOf 44 = .ok (.iload_n 2, 1) := by decide +kernel
theorem dX8_asksOf_45 : decode cX8_asksOf 45 = .ok (.iconst 3, 1) := by decide +kernel
theorem dX8_asksOf_46 : decode cX8_asksOf 46 = .ok (.iadd, 1) := by decide +kernel
theorem dX8_asksOf_47 : decode cX8_asksOf 47 = .ok (.ireturn, 1) := by decide +kernel
theorem dX8_asksOf_48 : decode cX8_asksOf 48 = .ok (.iconst 2, 1) := by decide +kernel
theorem dX8_asksOf_49 : decode cX8_asksOf 49 = .ok (.iload_n 2, 1) := by decide +kernel
theorem dX8_asksOf_50 : decode cX8_asksOf 50 = .ok (.iconst 3, 1) := by decide +kernel
theorem dX8_asksOf_51 : decode cX8_asksOf 51 = .ok (.iadd, 1) := by decide +kernel
theorem dX8_asksOf_52 : decode cX8_asksOf 52 = .ok (.imul, 1) := by decide +kernel
theorem dX8_asksOf_53 : decode cX8_asksOf 53 = .ok (.ireturn, 1) := by decide +kernel
theorem dX8_asksOf_54 : decode cX8_asksOf 54 = .ok (.iload_n 2, 1) := by decide +kernel
theorem dX8_asksOf_55 : decode cX8_asksOf 55 = .ok (.iconst 3, 1) := by decide +kernel
theorem dX8_asksOf_56 : decode cX8_asksOf 56 = .ok (.if_icmp .ge 7, 3) := by decide +kernel
theorem dX8_asksOf_59 : decode cX8_asksOf 59 = .ok (.iconst 1, 1) := by decide +kernel
theorem dX8_asksOf_60 : decode cX8_asksOf 60 = .ok (.goto 6, 3) := by decide +kernel
theorem dX8_asksOf_63 : decode cX8_asksOf 63 = .ok (.iload_n 2, 1) := by decide +kernel
theorem dX8_asksOf_64 : decode cX8_asksOf 64 = .ok (.iconst 2, 1) := by decide +kernel
theorem dX8_asksOf_65 : decode cX8_asksOf 65 = .ok (.isub, 1) := by decide +kernel
theorem dX8_asksOf_66 : decode cX8_asksOf 66 = .ok (.ireturn, 1) := by decide +kernel
theorem dX8_asksOf_67 : decode cX8_asksOf 67 = .ok (.iload_n 2, 1) := by decide +kernel
theorem dX8_asksOf_68 : decode cX8_asksOf 68 = .ok (.ireturn, 1) := by decide +kernel
theorem dX8_worthOf_0 : decode cX8_worthOf 0 = .ok (.aload_n 0, 1) := by decide +kernel
theorem dX8_worthOf_1 : decode cX8_worthOf 1 = .ok (.iload_n 1, 1) := by decide +kernel
theorem dX8_worthOf_2 : decode cX8_worthOf 2 = .ok (.iconst 2, 1) := by decide +kernel
theorem dX8_worthOf_3 : decode cX8_worthOf 3 = .ok (.invokevirtual 102, 3) := by decide +kernel
theorem dX8_worthOf_6 : decode cX8_worthOf 6 = .ok (.istore_n 2, 1) := by decide +kernel
theorem dX8_worthOf_7 : decode cX8_worthOf 7 = .ok (.aload_n 0, 1) := by decide +kernel
theorem dX8_worthOf_8 : decode cX8_worthOf 8 = .ok (.iload_n 1, 1) := by decide +kernel
theorem dX8_worthOf_9 : decode cX8_worthOf 9 = .ok (.iconst 0, 1) := by decide +kernel
theorem dX8_worthOf_10 : decode cX8_worthOf 10 = .ok (.invokevirtual 102, 3) := by decide +kernel
theorem dX8_worthOf_13 : decode cX8_worthOf 13 = .ok (.tableswitch 59 1 5 #[35, 40, 45, 52, 57], 35) := by decide +kernel
theorem dX8_worthOf_48 : decode cX8_worthOf 48 = .ok (.iload_n 2, 1) := by decide +kernel
theorem dX8_worthOf_49 : decode cX8_worthOf 49 = .ok (.bipush 8, 2) := by decide +kernel
theorem dX8_worthOf_51 : decode cX8_worthOf 51 = .ok (.iadd, 1) := by decide +kernel
theorem dX8_worthOf_52 : decode cX8_worthOf 52 = .ok (.ireturn, 1) := by decide +kernel
theorem dX8_worthOf_53 : decode cX8_worthOf 53 = .ok (.bipush 99, 2) := by decide +kernel
theorem dX8_worthOf_55 : decode cX8_worthOf 55 = .ok (.iload_n 2, 1) := by decide +kernel
theorem dX8_worthOf_56 : decode cX8_worthOf 56 = .ok (.isub, 1) := by decide +kernel
theorem dX8_worthOf_57 : decode cX8_worthOf 57 = .ok (.ireturn, 1) := by decide +kernel
theorem dX8_worthOf_58 : decode cX8_worthOf 58 = .ok (.iconst 2, 1) := by decide +kernel
theorem dX8_worthOf_59 : decode cX8_worthOf 59 = .ok (.iload_n 2, 1) := by decide +kernel
theorem dX8_worthOf_60 : decode cX8_worthOf 60 = .ok (.bipush 8, 2) := by decide +kernel
theorem dX8_worthOf_62 : decode cX8_worthOf 62 = .ok (.iadd, 1) := by decide +kernel
theorem dX8_worthOf_63 : decode cX8_worthOf 63 = .ok (.imul, 1) := by decide +kernel
theorem dX8_worthOf_64 : decode cX8_worthOf 64 = .ok (.ireturn, 1) := by decide +kernel
theorem dX8_worthOf_65 : decode cX8_worthOf 65 = .ok (.bipush 94, 2) := by decide +kernel
theorem dX8_worthOf_67 : decode cX8_worthOf 67 = .ok (.iload_n 2, 1) := by decide +kernel
theorem dX8_worthOf_68 : decode cX8_worthOf 68 = .ok (.isub, 1) := by decide +kernel
theorem dX8_worthOf_69 : decode cX8_worthOf 69 = .ok (.ireturn, 1) := by decide +kernel
theorem dX8_worthOf_70 : decode cX8_worthOf 70 = .ok (.iconst 2, 1) := by decide +kernel
theorem dX8_worthOf_71 : decode cX8_worthOf 71 = .ok (.ireturn, 1) := by decide +kernel
theorem dX8_worthOf_72 : decode cX8_worthOf 72 = .ok (.iload_n 2, 1) := by decide +kernel
theorem dX8_worthOf_73 : decode cX8_worthOf 73 = .ok (.ireturn, 1) := by decide +kernel
theorem dX8_told_0 : decode cX8_told 0 = .ok (.aload_n 0, 1) := by decide +kernel
theorem dX8_told_1 : decode cX8_told 1 = .ok (.iload_n 1, 1) := by decide +kernel
theorem dX8_told_2 : decode cX8_told 2 = .ok (.invokevirtual 116, 3) := by decide +kernel
theorem dX8_told_5 : decode cX8_told 5 = .ok (.ifCond .eq 13, 3) := by decide +kernel
theorem dX8_told_8 : decode cX8_told 8 = .ok (.iload_n 2, 1) := by decide +kernel
theorem dX8_told_9 : decode cX8_told 9 = .ok (.iconst 0, 1) := by decide +kernel
theorem dX8_told_10 : decode cX8_told 10 = .ok (.bipush 9, 2) := by decide +kernel
theorem dX8_told_12 : decode cX8_told 12 = .ok (.invokestatic 80, 3) := by decide +kernel
theorem dX8_told_15 : decode cX8_told 15 = .ok (.ifCond .ne 6, 3) := by decide +kernel
theorem dX8_told_18 : decode cX8_told 18 = .ok (.ldc 92, 2) := by decide +kernel
theorem dX8_told_20 : decode cX8_told 20 = .ok (.ireturn, 1) := by decide +kernel
theorem dX8_told_21 : decode cX8_told 21 = .ok (.iload_n 2, 1) := by decide +kernel
theorem dX8_told_22 : decode cX8_told 22 = .ok (.bipush 7, 2) := by decide +kernel
theorem dX8_told_24 : decode cX8_told 24 = .ok (.if_icmp .ge 12, 3) := by decide +kernel
theorem dX8_told_27 : decode cX8_told 27 = .ok (.aload_n 0, 1) := by decide +kernel
theorem dX8_told_28 : decode cX8_told 28 = .ok (.iload_n 1, 1) := by decide +kernel
theorem dX8_told_29 : decode cX8_told 29 = .ok (.iload_n 2, 1) := by decide +kernel
theorem dX8_told_30 : decode cX8_told 30 = .ok (.invokevirtual 102, 3) := by decide +kernel
theorem dX8_told_33 : decode cX8_told 33 = .ok (.goto 36, 3) := by decide +kernel
theorem dX8_told_36 : decode cX8_told 36 = .ok (.iload_n 2, 1) := by decide +kernel
theorem dX8_told_37 : decode cX8_told 37 = .ok (.bipush 7, 2) := by decide +kernel
theorem dX8_told_39 : decode cX8_told 39 = .ok (.if_icmp .ne 11, 3) := by decide +kernel
theorem dX8_told_42 : decode cX8_told 42 = .ok (.aload_n 0, 1) := by decide +kernel
theorem dX8_told_43 : decode cX8_told 43 = .ok (.iload_n 1, 1) := by decide +kernel
theorem dX8_told_44 : decode cX8_told 44 = .ok (.invokevirtual 120, 3) := by decide +kernel
theorem dX8_told_47 : decode cX8_told 47 = .ok (.goto 22, 3) := by decide +kernel
theorem dX8_told_50 : decode cX8_told 50 = .ok (.iload_n 2, 1) := by decide +kernel
theorem dX8_told_51 : decode cX8_told 51 = .ok (.bipush 8, 2) := by decide +kernel
theorem dX8_told_53 : decode cX8_told 53 = .ok (.if_icmp .ne 11, 3) := by decide +kernel
theorem dX8_told_56 : decode cX8_told 56 = .ok (.aload_n 0, 1) := by decide +kernel
theorem dX8_told_57 : decode cX8_told 57 = .ok (.iload_n 1, 1) := by decide +kernel
theorem dX8_told_58 : decode cX8_told 58 = .ok (.invokevirtual 123, 3) := by decide +kernel
theorem dX8_told_61 : decode cX8_told 61 = .ok (.goto 8, 3) := by decide +kernel
theorem dX8_told_64 : decode cX8_told 64 = .ok (.aload_n 0, 1) := by decide +kernel
theorem dX8_told_65 : decode cX8_told 65 = .ok (.iload_n 1, 1) := by decide +kernel
theorem dX8_told_66 : decode cX8_told 66 = .ok (.invokevirtual 126, 3) := by decide +kernel
theorem dX8_told_69 : decode cX8_told 69 = .ok (.ireturn, 1) := by decide +kernel
theorem dX8_shine_0 : decode cX8_shine 0 = .ok (.aload_n 0, 1) := by decide +kernel
theorem dX8_shine_1 : decode cX8_shine 1 = .ok (.iload_n 1, 1) := by decide +kernel
theorem dX8_shine_2 : decode cX8_shine 2 = .ok (.invokevirtual 116, 3) := by decide +kernel
theorem dX8_shine_5 : decode cX8_shine 5 = .ok (.ifCond .eq 33, 3) := by decide +kernel
theorem dX8_shine_8 : decode cX8_shine 8 = .ok (.iload_n 2, 1) := by decide +kernel
theorem dX8_shine_9 : decode cX8_shine 9 = .ok (.iconst 0, 1) := by decide +kernel
theorem dX8_shine_10 : decode cX8_shine 10 = .ok (.bipush 40, 2) := by decide +kernel
theorem dX8_shine_12 : decode cX8_shine 12 = .ok (.invokestatic 80, 3) := by decide +kernel
theorem dX8_shine_15 : decode cX8_shine 15 = .ok (.ifCond .eq 23, 3) := by decide +kernel
theorem dX8_shine_18 : decode cX8_shine 18 = .ok (.iload_n 3, 1) := by decide +kernel
theorem dX8_shine_19 : decode cX8_shine 19 = .ok (.iconst 0, 1) := by decide +kernel
theorem dX8_shine_20 : decode cX8_shine 20 = .ok (.bipush 9, 2) := by decide +kernel
theorem dX8_shine_22 : decode cX8_shine 22 = .ok (.invokestatic 80, 3) := by decide +kernel
theorem dX8_shine_25 : decode cX8_shine 25 = .ok (.ifCond .eq 13, 3) := by decide +kernel
theorem dX8_shine_28 : decode cX8_shine 28 = .ok (.aload_n 0, 1) := by decide +kernel
theorem dX8_shine_29 : decode cX8_shine 29 = .ok (.iload_n 1, 1) := by decide +kernel
theorem dX8_shine_30 : decode cX8_shine 30 = .ok (.iload_n 2, 1) := by decide +kernel
theorem dX8_shine_31 : decode cX8_shine 31 = .ok (.iload_n 3, 1) := by decide +kernel
theorem dX8_shine_32 : decode cX8_shine 32 = .ok (.invokevirtual 129, 3) := by decide +kernel
theorem dX8_shine_35 : decode cX8_shine 35 = .ok (.goto 5, 3) := by decide +kernel
theorem dX8_shine_38 : decode cX8_shine 38 = .ok (.ldc 92, 2) := by decide +kernel
theorem dX8_shine_40 : decode cX8_shine 40 = .ok (.ireturn, 1) := by decide +kernel
theorem dX8_isUnder_0 : decode cX8_isUnder 0 = .ok (.iload_n 1, 1) := by decide +kernel
theorem dX8_isUnder_1 : decode cX8_isUnder 1 = .ok (.ifCond .eq 28, 3) := by decide +kernel
theorem dX8_isUnder_4 : decode cX8_isUnder 4 = .ok (.iload_n 0, 1) := by decide +kernel
theorem dX8_isUnder_5 : decode cX8_isUnder 5 = .ok (.iload_n 1, 1) := by decide +kernel
theorem dX8_isUnder_6 : decode cX8_isUnder 6 = .ok (.if_icmp .eq 23, 3) := by decide +kernel
theorem dX8_isUnder_9 : decode cX8_isUnder 9 = .ok (.iload_n 1, 1) := by decide +kernel
theorem dX8_isUnder_10 : decode cX8_isUnder 10 = .ok (.iconst 1, 1) := by decide +kernel
theorem dX8_isUnder_11 : decode cX8_isUnder 11 = .ok (.if_icmp .ne 8, 3) := by decide +kernel
theorem dX8_isUnder_14 : decode cX8_isUnder 14 = .ok (.iload_n 0, 1) := by decide +kernel
theorem dX8_isUnder_15 : decode cX8_isUnder 15 = .ok (.iconst 3, 1) := by decide +kernel
theorem dX8_isUnder_16 : decode cX8_isUnder 16 = .ok (.if_icmp .eq 13, 3) := by decide +kernel
theorem dX8_isUnder_19 : decode cX8_isUnder 19 = .ok (.iload_n 1, 1) := by decide +kernel
theorem dX8_isUnder_20 : decode cX8_isUnder 20 = .ok (.iconst 2, 1) := by decide +kernel
theorem dX8_isUnder_21 : decode cX8_isUnder 21 = .ok (.if_icmp .ne 12, 3) := by decide +kernel
theorem dX8_isUnder_24 : decode cX8_isUnder 24 = .ok (.iload_n 0, 1) := by decide +kernel
theorem dX8_isUnder_25 : decode cX8_isUnder 25 = .ok (.iconst 4, 1) := by decide +kernel
theorem dX8_isUnder_26 : decode cX8_isUnder 26 = .ok (.if_icmp .ne 7, 3) := by decide +kernel
theorem dX8_isUnder_29 : decode cX8_isUnder 29 = .ok (.iconst 1, 1) := by decide +kernel
theorem dX8_isUnder_30 : decode cX8_isUnder 30 = .ok (.goto 4, 3) := by decide +kernel
theorem dX8_isUnder_33 : decode cX8_isUnder 33 = .ok (.iconst 0, 1) := by decide +kernel
theorem dX8_isUnder_34 : decode cX8_isUnder 34 = .ok (.ireturn, 1) := by decide +kernel
theorem dX8_as_0 : decode cX8_as 0 = .ok (.aload_n 0, 1) := by decide +kernel
theorem dX8_as_1 : decode cX8_as 1 = .ok (.iload_n 1, 1) := by decide +kernel
theorem dX8_as_2 : decode cX8_as 2 = .ok (.invokevirtual 116, 3) := by decide +kernel
theorem dX8_as_5 : decode cX8_as 5 = .ok (.ifCond .eq 12, 3) := by decide +kernel
theorem dX8_as_8 : decode cX8_as 8 = .ok (.iload_n 2, 1) := by decide +kernel
theorem dX8_as_9 : decode cX8_as 9 = .ok (.iconst 0, 1) := by decide +kernel
theorem dX8_as_10 : decode cX8_as 10 = .ok (.iconst 5, 1) := by decide +kernel
theorem dX8_as_11 : decode cX8_as 11 = .ok (.invokestatic 80, 3) := by decide +kernel
theorem dX8_as_14 : decode cX8_as 14 = .ok (.ifCond .ne 6, 3) := by decide +kernel
theorem dX8_as_17 : decode cX8_as 17 = .ok (.ldc 92, 2) := by decide +kernel
theorem dX8_as_19 : decode cX8_as 19 = .ok (.ireturn, 1) := by decide +kernel
theorem dX8_as_20 : decode cX8_as 20 = .ok (.aload_n 0, 1) := by decide +kernel
theorem dX8_as_21 : decode cX8_as 21 = .ok (.iload_n 1, 1) := by decide +kernel
theorem dX8_as_22 : decode cX8_as 22 = .ok (.iconst 0, 1) := by decide +kernel
theorem dX8_as_23 : decode cX8_as 23 = .ok (.invokevirtual 102, 3) := by decide +kernel
theorem dX8_as_26 : decode cX8_as 26 = .ok (.iload_n 2, 1) := by decide +kernel
theorem dX8_as_27 : decode cX8_as 27 = .ok (.invokestatic 132, 3) := by decide +kernel
theorem dX8_as_30 : decode cX8_as 30 = .ok (.ifCond .eq 12, 3) := by decide +kernel
theorem dX8_as_33 : decode cX8_as 33 = .ok (.aload_n 0, 1) := by decide +kernel
theorem dX8_as_34 : decode cX8_as 34 = .ok (.iload_n 1, 1) := by decide +kernel
theorem dX8_as_35 : decode cX8_as 35 = .ok (.iconst 2, 1) := by decide +kernel
theorem dX8_as_36 : decode cX8_as 36 = .ok (.invokevirtual 102, 3) := by decide +kernel
theorem dX8_as_39 : decode cX8_as 39 = .ok (.goto 5, 3) := by decide +kernel
theorem dX8_as_42 : decode cX8_as 42 = .ok (.ldc 135, 2) := by decide +kernel
theorem dX8_as_44 : decode cX8_as 44 = .ok (.ireturn, 1) := by decide +kernel
theorem dX8_turns_0 : decode cX8_turns 0 = .ok (.aload_n 0, 1) := by decide +kernel
theorem dX8_turns_1 : decode cX8_turns 1 = .ok (.iload_n 1, 1) := by decide +kernel
theorem dX8_turns_2 : decode cX8_turns 2 = .ok (.invokevirtual 116, 3) := by decide +kernel
theorem dX8_turns_5 : decode cX8_turns 5 = .ok (.ifCond .eq 27, 3) := by decide +kernel
theorem dX8_turns_8 : decode cX8_turns 8 = .ok (.iload_n 2, 1) := by decide +kernel
theorem dX8_turns_9 : decode cX8_turns 9 = .ok (.iconst 0, 1) := by decide +kernel
theorem dX8_turns_10 : decode cX8_turns 10 = .ok (.iconst 5, 1) := by decide +kernel
theorem dX8_turns_11 : decode cX8_turns 11 = .ok (.invokestatic 80, 3) := by decide +kernel
theorem dX8_turns_14 : decode cX8_turns 14 = .ok (.ifCond .eq 18, 3) := by decide +kernel
theorem dX8_turns_17 : decode cX8_turns 17 = .ok (.aload_n 0, 1) := by decide +kernel
theorem dX8_turns_18 : decode cX8_turns 18 = .ok (.bipush 9, 2) := by decide +kernel
theorem dX8_turns_20 : decode cX8_turns 20 = .ok (.bipush 7, 2) := by decide +kernel
theorem dX8_turns_22 : decode cX8_turns 22 = .ok (.iload_n 1, 1) := by decide +kernel
theorem dX8_turns_23 : decode cX8_turns 23 = .ok (.imul, 1) := by decide +kernel
theorem dX8_turns_24 : decode cX8_turns 24 = .ok (.iadd, 1) := by decide +kernel
theorem dX8_turns_25 : decode cX8_turns 25 = .ok (.iload_n 2, 1) := by decide +kernel
theorem dX8_turns_26 : decode cX8_turns 26 = .ok (.invokevirtual 136, 3) := by decide +kernel
theorem dX8_turns_29 : decode cX8_turns 29 = .ok (.goto 5, 3) := by decide +kernel
theorem dX8_turns_32 : decode cX8_turns 32 = .ok (.ldc 92, 2) := by decide +kernel
theorem dX8_turns_34 : decode cX8_turns 34 = .ok (.ireturn, 1) := by decide +kernel
theorem dX8_set_0 : decode cX8_set 0 = .ok (.aload_n 0, 1) := by decide +kernel
theorem dX8_set_1 : decode cX8_set 1 = .ok (.iload_n 1, 1) := by decide +kernel
theorem dX8_set_2 : decode cX8_set 2 = .ok (.invokevirtual 116, 3) := by decide +kernel
theorem dX8_set_5 : decode cX8_set 5 = .ok (.ifCond .eq 37, 3) := by decide +kernel
theorem dX8_set_8 : decode cX8_set 8 = .ok (.iload_n 2, 1) := by decide +kernel
theorem dX8_set_9 : decode cX8_set 9 = .ok (.iconst 1, 1) := by decide +kernel
theorem dX8_set_10 : decode cX8_set 10 = .ok (.iconst 3, 1) := by decide +kernel
theorem dX8_set_11 : decode cX8_set 11 = .ok (.invokestatic 80, 3) := by decide +kernel
theorem dX8_set_14 : decode cX8_set 14 = .ok (.ifCond .eq 28, 3) := by decide +kernel
theorem dX8_set_17 : decode cX8_set 17 = .ok (.iload_n 2, 1) := by decide +kernel
theorem dX8_set_18 : decode cX8_set 18 = .ok (.iload_n 3, 1) := by decide +kernel
theorem dX8_set_19 : decode cX8_set 19 = .ok (.invokestatic 88, 3) := by decide +kernel
theorem dX8_set_22 : decode cX8_set 22 = .ok (.ifCond .eq 20, 3) := by decide +kernel
theorem dX8_set_25 : decode cX8_set 25 = .ok (.aload_n 0, 1) := by decide +kernel
theorem dX8_set_26 : decode cX8_set 26 = .ok (.bipush 9, 2) := by decide +kernel
theorem dX8_set_28 : decode cX8_set 28 = .ok (.bipush 7, 2) := by decide +kernel
theorem dX8_set_30 : decode cX8_set 30 = .ok (.iload_n 1, 1) := by decide +kernel
theorem dX8_set_31 : decode cX8_set 31 = .ok (.imul, 1) := by decide +kernel
theorem dX8_set_32 : decode cX8_set 32 = .ok (.iadd, 1) := by decide +kernel
theorem dX8_set_33 : decode cX8_set 33 = .ok (.iload_n 2, 1) := by decide +kernel
theorem dX8_set_34 : decode cX8_set 34 = .ok (.iadd, 1) := by decide +kernel
theorem dX8_set_35 : decode cX8_set 35 = .ok (.iload_n 3, 1) := by decide +kernel
theorem dX8_set_36 : decode cX8_set 36 = .ok (.invokevirtual 136, 3) := by decide +kernel
theorem dX8_set_39 : decode cX8_set 39 = .ok (.goto 5, 3) := by decide +kernel
theorem dX8_set_42 : decode cX8_set 42 = .ok (.ldc 92, 2) := by decide +kernel
theorem dX8_set_44 : decode cX8_set 44 = .ok (.ireturn, 1) := by decide +kernel
theorem dX8_draw_0 : decode cX8_draw 0 = .ok (.aload_n 0, 1) := by decide +kernel
theorem dX8_draw_1 : decode cX8_draw 1 = .ok (.getfield 9, 3) := by decide +kernel
theorem dX8_draw_4 : decode cX8_draw 4 = .ok (.iconst 0, 1) := by decide +kernel
theorem dX8_draw_5 : decode cX8_draw 5 = .ok (.aload_n 0, 1) := by decide +kernel
theorem dX8_draw_6 : decode cX8_draw 6 = .ok (.getfield 9, 3) := by decide +kernel
theorem dX8_draw_9 : decode cX8_draw 9 = .ok (.iconst 0, 1) := by decide +kernel
theorem dX8_draw_10 : decode cX8_draw 10 = .ok (.iaload, 1) := by decide +kernel
theorem dX8_draw_11 : decode cX8_draw 11 = .ok (.ldc 139, 2) := by decide +kernel
theorem dX8_draw_13 : decode cX8_draw 13 = .ok (.imul, 1) := by decide +kernel
theorem dX8_draw_14 : decode cX8_draw 14 = .ok (.sipush 12345, 3) := by decide +kernel
theorem dX8_draw_17 : decode cX8_draw 17 = .ok (.iadd, 1) := by decide +kernel
theorem dX8_draw_18 : decode cX8_draw 18 = .ok (.iastore, 1) := by decide +kernel
theorem dX8_draw_19 : decode cX8_draw 19 = .ok (.aload_n 0, 1) := by decide +kernel
theorem dX8_draw_20 : decode cX8_draw 20 = .ok (.getfield 9, 3) := by decide +kernel
theorem dX8_draw_23 : decode cX8_draw 23 = .ok (.iconst 0, 1) := by decide +kernel
theorem dX8_draw_24 : decode cX8_draw 24 = .ok (.iaload, 1) := by decide +kernel
theorem dX8_draw_25 : decode cX8_draw 25 = .ok (.bipush 8, 2) := by decide +kernel
theorem dX8_draw_27 : decode cX8_draw 27 = .ok (.iushr, 1) := by decide +kernel
theorem dX8_draw_28 : decode cX8_draw 28 = .ok (.ireturn, 1) := by decide +kernel
theorem dX8_deal_0 : decode cX8_deal 0 = .ok (.iload_n 1, 1) := by decide +kernel
theorem dX8_deal_1 : decode cX8_deal 1 = .ok (.iconst 1, 1) := by decide +kernel
theorem dX8_deal_2 : decode cX8_deal 2 = .ok (.bipush 8, 2) := by decide +kernel
theorem dX8_deal_4 : decode cX8_deal 4 = .ok (.invokestatic 80, 3) := by decide +kernel
theorem dX8_deal_7 : decode cX8_deal 7 = .ok (.ifCond .ne 6, 3) := by decide +kernel
theorem dX8_deal_10 : decode cX8_deal 10 = .ok (.ldc 92, 2) := by decide +kernel
theorem dX8_deal_12 : decode cX8_deal 12 = .ok (.ireturn, 1) := by decide +kernel
theorem dX8_deal_13 : decode cX8_deal 13 = .ok (.iconst 0, 1) := by decide +kernel
theorem dX8_deal_14 : decode cX8_deal 14 = .ok (.istore_n 2, 1) := by decide +kernel
theorem dX8_deal_15 : decode cX8_deal 15 = .ok (.iload_n 2, 1) := by decide +kernel
theorem dX8_deal_16 : decode cX8_deal 16 = .ok (.iload_n 1, 1) := by decide +kernel
theorem dX8_deal_17 : decode cX8_deal 17 = .ok (.if_icmp .ge 68, 3) := by decide +kernel
theorem dX8_deal_20 : decode cX8_deal 20 = .ok (.aload_n 0, 1) := by decide +kernel
theorem dX8_deal_21 : decode cX8_deal 21 = .ok (.getfield 9, 3) := by decide +kernel
theorem dX8_deal_24 : decode cX8_deal 24 = .ok (.iconst 1, 1) := by decide +kernel
theorem dX8_deal_25 : decode cX8_deal 25 = .ok (.iaload, 1) := by decide +kernel
theorem dX8_deal_26 : decode cX8_deal 26 = .ok (.bipush 8, 2) := by decide +kernel
theorem dX8_deal_28 : decode cX8_deal 28 = .ok (.if_icmp .ge 57, 3) := by decide +kernel
theorem dX8_deal_31 : decode cX8_deal 31 = .ok (.aload_n 0, 1) := by decide +kernel
theorem dX8_deal_32 : decode cX8_deal 32 = .ok (.invokevirtual 140, 3) := by decide +kernel
theorem dX8_deal_35 : decode cX8_deal 35 = .ok (.bipush 6, 2) := by decide +kernel
theorem dX8_deal_37 : decode cX8_deal 37 = .ok (.irem, 1) := by decide +kernel
theorem dX8_deal_38 : decode cX8_deal 38 = .ok (.istore_n 3, 1) := by decide +kernel
theorem dX8_deal_39 : decode cX8_deal 39 = .ok (.aload_n 0, 1) := by decide +kernel
theorem dX8_deal_40 : decode cX8_deal 40 = .ok (.invokevirtual 140, 3) := by decide +kernel
theorem dX8_deal_43 : decode cX8_deal 43 = .ok (.bipush 10, 2) := by decide +kernel
theorem dX8_deal_45 : decode cX8_deal 45 = .ok (.irem, 1) := by decide +kernel
theorem dX8_deal_46 : decode cX8_deal 46 = .ok (.istore 4, 2) := by decide +kernel
theorem dX8_deal_48 : decode cX8_deal 48 = .ok (.iconst 1, 1) := by decide +kernel
theorem dX8_deal_49 : decode cX8_deal 49 = .ok (.aload_n 0, 1) := by decide +kernel
theorem dX8_deal_50 : decode cX8_deal 50 = .ok (.invokevirtual 140, 3) := by decide +kernel
theorem dX8_deal_53 : decode cX8_deal 53 = .ok (.bipush 20, 2) := by decide +kernel
theorem dX8_deal_55 : decode cX8_deal 55 = .ok (.irem, 1) := by decide +kernel
theorem dX8_deal_56 : decode cX8_deal 56 = .ok (.iadd, 1) := by decide +kernel
theorem dX8_deal_57 : decode cX8_deal 57 = .ok (.istore 5, 2) := by decide +kernel
theorem dX8_deal_59 : decode cX8_deal 59 = .ok (.aload_n 0, 1) := by decide +kernel
theorem dX8_deal_60 : decode cX8_deal 60 = .ok (.iload_n 3, 1) := by decide +kernel
theorem dX8_deal_61 : decode cX8_deal 61 = .ok (.iload 4, 2) := by decide +kernel
theorem dX8_deal_63 : decode cX8_deal 63 = .ok (.iload 5, 2) := by decide +kernel
theorem dX8_deal_65 : decode cX8_deal 65 = .ok (.iconst 1, 1) := by decide +kernel
theorem dX8_deal_66 : decode cX8_deal 66 = .ok (.aload_n 0, 1) := by decide +kernel
theorem dX8_deal_67 : decode cX8_deal 67 = .ok (.invokevirtual 140, 3) := by decide +kernel
theorem dX8_deal_70 : decode cX8_deal 70 = .ok (.bipush 12, 2) := by decide +kernel
theorem dX8_deal_72 : decode cX8_deal 72 = .ok (.irem, 1) := by decide +kernel
theorem dX8_deal_73 : decode cX8_deal 73 = .ok (.iadd, 1) := by decide +kernel
theorem dX8_deal_74 : decode cX8_deal 74 = .ok (.invokevirtual 94, 3) := by decide +kernel
theorem dX8_deal_77 : decode cX8_deal 77 = .ok (.istore 6, 2) := by decide +kernel
theorem dX8_deal_79 : decode cX8_deal 79 = .ok (.iinc 2 1, 3) := by decide +kernel
theorem dX8_deal_82 : decode cX8_deal 82 = .ok (.goto (-67), 3) := by decide +kernel
theorem dX8_deal_85 : decode cX8_deal 85 = .ok (.iload_n 2, 1) := by decide +kernel
theorem dX8_deal_86 : decode cX8_deal 86 = .ok (.ireturn, 1) := by decide +kernel
theorem dX8_seed_0 : decode cX8_seed 0 = .ok (.aload_n 0, 1) := by decide +kernel
theorem dX8_seed_1 : decode cX8_seed 1 = .ok (.iconst 0, 1) := by decide +kernel
theorem dX8_seed_2 : decode cX8_seed 2 = .ok (.iload_n 1, 1) := by decide +kernel
theorem dX8_seed_3 : decode cX8_seed 3 = .ok (.invokevirtual 136, 3) := by decide +kernel
theorem dX8_seed_6 : decode cX8_seed 6 = .ok (.ireturn, 1) := by decide +kernel
theorem dX8_rule_0 : decode cX8_rule 0 = .ok (.iload_n 1, 1) := by decide +kernel
theorem dX8_rule_1 : decode cX8_rule 1 = .ok (.iconst 0, 1) := by decide +kernel
theorem dX8_rule_2 : decode cX8_rule 2 = .ok (.iconst 2, 1) := by decide +kernel
theorem dX8_rule_3 : decode cX8_rule 3 = .ok (.invokestatic 80, 3) := by decide +kernel
theorem dX8_rule_6 : decode cX8_rule 6 = .ok (.ifCond .eq 42, 3) := by decide +kernel
theorem dX8_rule_9 : decode cX8_rule 9 = .ok (.iload_n 2, 1) := by decide +kernel
theorem dX8_rule_10 : decode cX8_rule 10 = .ok (.iconst 0, 1) := by decide +kernel
theorem dX8_rule_11 : decode cX8_rule 11 = .ok (.iload_n 1, 1) := by decide +kernel
theorem dX8_rule_12 : decode cX8_rule 12 = .ok (.ifCond .ne 8, 3) := by decide +kernel
theorem dX8_rule_15 : decode cX8_rule 15 = .ok (.bipush 99, 2) := by decide +kernel
theorem dX8_rule_17 : decode cX8_rule 17 = .ok (.goto 14, 3) := by decide +kernel
theorem dX8_rule_20 : decode cX8_rule 20 = .ok (.iload_n 1, 1) := by decide +kernel
theorem dX8_rule_21 : decode cX8_rule 21 = .ok (.iconst 1, 1) := by decide +kernel
theorem dX8_rule_22 : decode cX8_rule 22 = .ok (.if_icmp .ne 8, 3) := by decide +kernel
theorem dX8_rule_25 : decode cX8_rule 25 = .ok (.bipush 100, 2) := by decide +kernel
theorem dX8_rule_27 : decode cX8_rule 27 = .ok (.goto 4, 3) := by decide +kernel
theorem dX8_rule_30 : decode cX8_rule 30 = .ok (.iconst 1, 1) := by decide +kernel
theorem dX8_rule_31 : decode cX8_rule 31 = .ok (.invokestatic 80, 3) := by decide +kernel
theorem dX8_rule_34 : decode cX8_rule 34 = .ok (.ifCond .eq 14, 3) := by decide +kernel
theorem dX8_rule_37 : decode cX8_rule 37 = .ok (.aload_n 0, 1) := by decide +kernel
theorem dX8_rule_38 : decode cX8_rule 38 = .ok (.iconst 3, 1) := by decide +kernel
theorem dX8_rule_39 : decode cX8_rule 39 = .ok (.iload_n 1, 1) := by decide +kernel
theorem dX8_rule_40 : decode cX8_rule 40 = .ok (.iadd, 1) := by decide +kernel
theorem dX8_rule_41 : decode cX8_rule 41 = .ok (.iload_n 2, 1) := by decide +kernel
theorem dX8_rule_42 : decode cX8_rule 42 = .ok (.invokevirtual 136, 3) := by decide +kernel
theorem dX8_rule_45 : decode cX8_rule 45 = .ok (.goto 5, 3) := by decide +kernel
theorem dX8_rule_48 : decode cX8_rule 48 = .ok (.ldc 92, 2) := by decide +kernel
theorem dX8_rule_50 : decode cX8_rule 50 = .ok (.ireturn, 1) := by decide +kernel
theorem dX8_apart_0 : decode cX8_apart 0 = .ok (.iload_n 0, 1) := by decide +kernel
theorem dX8_apart_1 : decode cX8_apart 1 = .ok (.iload_n 1, 1) := by decide +kernel
theorem dX8_apart_2 : decode cX8_apart 2 = .ok (.if_icmp .ge 9, 3) := by decide +kernel
theorem dX8_apart_5 : decode cX8_apart 5 = .ok (.iload_n 1, 1) := by decide +kernel
theorem dX8_apart_6 : decode cX8_apart 6 = .ok (.iload_n 0, 1) := by decide +kernel
theorem dX8_apart_7 : decode cX8_apart 7 = .ok (.isub, 1) := by decide +kernel
theorem dX8_apart_8 : decode cX8_apart 8 = .ok (.goto 6, 3) := by decide +kernel
theorem dX8_apart_11 : decode cX8_apart 11 = .ok (.iload_n 0, 1) := by decide +kernel
theorem dX8_apart_12 : decode cX8_apart 12 = .ok (.iload_n 1, 1) := by decide +kernel
theorem dX8_apart_13 : decode cX8_apart 13 = .ok (.isub, 1) := by decide +kernel
theorem dX8_apart_14 : decode cX8_apart 14 = .ok (.ireturn, 1) := by decide +kernel
theorem dX8_boyFor_0 : decode cX8_boyFor 0 = .ok (.iconst (-1), 1) := by decide +kernel
theorem dX8_boyFor_1 : decode cX8_boyFor 1 = .ok (.istore_n 3, 1) := by decide +kernel
theorem dX8_boyFor_2 : decode cX8_boyFor 2 = .ok (.iconst 0, 1) := by decide +kernel
theorem dX8_boyFor_3 : decode cX8_boyFor 3 = .ok (.istore 4, 2) := by decide +kernel
theorem dX8_boyFor_5 : decode cX8_boyFor 5 = .ok (.iconst 0, 1) := by decide +kernel
theorem dX8_boyFor_6 : decode cX8_boyFor 6 = .ok (.istore 5, 2) := by decide +kernel
theorem dX8_boyFor_8 : decode cX8_boyFor 8 = .ok (.iload 5, 2) := by decide +kernel
theorem dX8_boyFor_10 : decode cX8_boyFor 10 = .ok (.aload_n 0, 1) := by decide +kernel
theorem dX8_boyFor_11 : decode cX8_boyFor 11 = .ok (.getfield 9, 3) := by decide +kernel
theorem dX8_boyFor_14 : decode cX8_boyFor 14 = .ok (.iconst 1, 1) := by decide +kernel
theorem dX8_boyFor_15 : decode cX8_boyFor 15 = .ok (.iaload, 1) := by decide +kernel
theorem dX8_boyFor_16 : decode cX8_boyFor 16 = .ok (.if_icmp .ge 79, 3) := by decide +kernel
theorem dX8_boyFor_19 : decode cX8_boyFor 19 = .ok (.iload 5, 2) := by decide +kernel
theorem dX8_boyFor_21 : decode cX8_boyFor 21 = .ok (.aload_n 0, 1) := by decide +kernel
theorem dX8_boyFor_22 : decode cX8_boyFor 22 = .ok (.getfield 19, 3) := by decide +kernel
theorem dX8_boyFor_25 : decode cX8_boyFor 25 = .ok (.if_icmp .eq 64, 3) := by decide +kernel
theorem dX8_boyFor_28 : decode cX8_boyFor 28 = .ok (.aload_n 0, 1) := by decide +kernel
theorem dX8_boyFor_29 : decode cX8_boyFor 29 = .ok (.iload 5, 2) := by decide +kernel
theorem dX8_boyFor_31 : decode cX8_boyFor 31 = .ok (.iconst 5, 1) := by decide +kernel
theorem dX8_boyFor_32 : decode cX8_boyFor 32 = .ok (.invokevirtual 102, 3) := by decide +kernel
theorem dX8_boyFor_35 : decode cX8_boyFor 35 = .ok (.ifCond .gt 54, 3) := by decide +kernel
theorem dX8_boyFor_38 : decode cX8_boyFor 38 = .ok (.aload_n 0, 1) := by decide +kernel
theorem dX8_boyFor_39 : decode cX8_boyFor 39 = .ok (.iload 5, 2) := by decide +kernel
theorem dX8_boyFor_41 : decode cX8_boyFor 41 = .ok (.invokevirtual 120, 3) := by decide +kernel
theorem dX8_boyFor_44 : decode cX8_boyFor 44 = .ok (.iload_n 2, 1) := by decide +kernel
theorem dX8_boyFor_45 : decode cX8_boyFor 45 = .ok (.if_icmp .le 6, 3) := by decide +kernel
theorem dX8_boyFor_48 : decode cX8_boyFor 48 = .ok (.goto 41, 3) := by decide +kernel
theorem dX8_boyFor_51 : decode cX8_boyFor 51 = .ok (.aload_n 0, 1) := by decide +kernel
theorem dX8_boyFor_52 : decode cX8_boyFor 52 = .ok (.iload 5, 2) := by decide +kernel
theorem dX8_boyFor_54 : decode cX8_boyFor 54 = .ok (.invokevirtual 123, 3) := by decide +kernel
theorem dX8_boyFor_57 : decode cX8_boyFor 57 = .ok (.aload_n 0, 1) := by decide +kernel
theorem dX8_boyFor_58 : decode cX8_boyFor 58 = .ok (.iload 5, 2) := by decide +kernel
theorem dX8_boyFor_60 : decode cX8_boyFor 60 = .ok (.iconst 1, 1) := by decide +kernel
theorem dX8_boyFor_61 : decode cX8_boyFor 61 = .ok (.invokevirtual 102, 3) := by decide +kernel
theorem dX8_boyFor_64 : decode cX8_boyFor 64 = .ok (.iload_n 1, 1) := by decide +kernel
theorem dX8_boyFor_65 : decode cX8_boyFor 65 = .ok (.invokestatic 144, 3) := by decide +kernel
theorem dX8_boyFor_68 : decode cX8_boyFor 68 = .ok (.iadd, 1) := by decide +kernel
theorem dX8_boyFor_69 : decode cX8_boyFor 69 = .ok (.istore 6, 2) := by decide +kernel
theorem dX8_boyFor_71 : decode cX8_boyFor 71 = .ok (.iload_n 3, 1) := by decide +kernel
theorem dX8_boyFor_72 : decode cX8_boyFor 72 = .ok (.ifCond .lt 10, 3) := by decide +kernel
theorem dX8_boyFor_75 : decode cX8_boyFor 75 = .ok (.iload 6, 2) := by decide +kernel
theorem dX8_boyFor_77 : decode cX8_boyFor 77 = .ok (.iload 4, 2) := by decide +kernel
theorem dX8_boyFor_79 : decode cX8_boyFor 79 = .ok (.if_icmp .ge 10, 3) := by decide +kernel
theorem dX8_boyFor_82 : decode cX8_boyFor 82 = .ok (.iload 5, 2) := by decide +kernel
theorem dX8_boyFor_84 : decode cX8_boyFor 84 = .ok (.istore_n 3, 1) := by decide +kernel
theorem dX8_boyFor_85 : decode cX8_boyFor 85 = .ok (.iload 6, 2) := by decide +kernel
theorem dX8_boyFor_87 : decode cX8_boyFor 87 = .ok (.istore 4, 2) := by decide +kernel
theorem dX8_boyFor_89 : decode cX8_boyFor 89 = .ok (.iinc 5 1, 3) := by decide +kernel
theorem dX8_boyFor_92 : decode cX8_boyFor 92 = .ok (.goto (-84), 3) := by decide +kernel
theorem dX8_boyFor_95 : decode cX8_boyFor 95 = .ok (.iload_n 3, 1) := by decide +kernel
theorem dX8_boyFor_96 : decode cX8_boyFor 96 = .ok (.ireturn, 1) := by decide +kernel
theorem dX8_serves_0 : decode cX8_serves 0 = .ok (.aload_n 0, 1) := by decide +kernel
theorem dX8_serves_1 : decode cX8_serves 1 = .ok (.iload_n 1, 1) := by decide +kernel
theorem dX8_serves_2 : decode cX8_serves 2 = .ok (.aload_n 0, 1) := by decide +kernel
theorem dX8_serves_3 : decode cX8_serves 3 = .ok (.iload_n 1, 1) := by decide +kernel
theorem dX8_serves_4 : decode cX8_serves 4 = .ok (.iconst 3, 1) := by decide +kernel
theorem dX8_serves_5 : decode cX8_serves 5 = .ok (.invokevirtual 102, 3) := by decide +kernel
theorem dX8_serves_8 : decode cX8_serves 8 = .ok (.iload_n 2, 1) := by decide +kernel
theorem dX8_serves_9 : decode cX8_serves 9 = .ok (.invokevirtual 129, 3) := by decide +kernel
theorem dX8_serves_12 : decode cX8_serves 12 = .ok (.istore_n 3, 1) := by decide +kernel
theorem dX8_serves_13 : decode cX8_serves 13 = .ok (.iload_n 3, 1) := by decide +kernel
theorem dX8_serves_14 : decode cX8_serves 14 = .ok (.bipush 30, 2) := by decide +kernel
theorem dX8_serves_16 : decode cX8_serves 16 = .ok (.if_icmp .ge 7, 3) := by decide +kernel
theorem dX8_serves_19 : decode cX8_serves 19 = .ok (.iconst 0, 1) := by decide +kernel
theorem dX8_serves_20 : decode cX8_serves 20 = .ok (.goto 20, 3) := by decide +kernel
theorem dX8_serves_23 : decode cX8_serves 23 = .ok (.aload_n 0, 1) := by decide +kernel
theorem dX8_serves_24 : decode cX8_serves 24 = .ok (.iload_n 1, 1) := by decide +kernel
theorem dX8_serves_25 : decode cX8_serves 25 = .ok (.invokevirtual 123, 3) := by decide +kernel
theorem dX8_serves_28 : decode cX8_serves 28 = .ok (.iload_n 3, 1) := by decide +kernel
theorem dX8_serves_29 : decode cX8_serves 29 = .ok (.bipush 90, 2) := by decide +kernel
theorem dX8_serves_31 : decode cX8_serves 31 = .ok (.if_icmp .ge 7, 3) := by decide +kernel
theorem dX8_serves_34 : decode cX8_serves 34 = .ok (.iconst 0, 1) := by decide +kernel
theorem dX8_serves_35 : decode cX8_serves 35 = .ok (.goto 4, 3) := by decide +kernel
theorem dX8_serves_38 : decode cX8_serves 38 = .ok (.iconst 1, 1) := by decide +kernel
theorem dX8_serves_39 : decode cX8_serves 39 = .ok (.iadd, 1) := by decide +kernel
theorem dX8_serves_40 : decode cX8_serves 40 = .ok (.istore 4, 2) := by decide +kernel
theorem dX8_serves_42 : decode cX8_serves 42 = .ok (.iload 4, 2) := by decide +kernel
theorem dX8_serves_44 : decode cX8_serves 44 = .ok (.aload_n 0, 1) := by decide +kernel
theorem dX8_serves_45 : decode cX8_serves 45 = .ok (.getfield 9, 3) := by decide +kernel
theorem dX8_serves_48 : decode cX8_serves 48 = .ok (.iconst 3, 1) := by decide +kernel
theorem dX8_serves_49 : decode cX8_serves 49 = .ok (.iaload, 1) := by decide +kernel
theorem dX8_serves_50 : decode cX8_serves 50 = .ok (.imul, 1) := by decide +kernel
theorem dX8_serves_51 : decode cX8_serves 51 = .ok (.bipush 100, 2) := by decide +kernel
theorem dX8_serves_53 : decode cX8_serves 53 = .ok (.idiv, 1) := by decide +kernel
theorem dX8_serves_54 : decode cX8_serves 54 = .ok (.istore 5, 2) := by decide +kernel
theorem dX8_serves_56 : decode cX8_serves 56 = .ok (.aload_n 0, 1) := by decide +kernel
theorem dX8_serves_57 : decode cX8_serves 57 = .ok (.iload_n 1, 1) := by decide +kernel
theorem dX8_serves_58 : decode cX8_serves 58 = .ok (.iconst 5, 1) := by decide +kernel
theorem dX8_serves_59 : decode cX8_serves 59 = .ok (.aload_n 0, 1) := by decide +kernel
theorem dX8_serves_60 : decode cX8_serves 60 = .ok (.iload_n 1, 1) := by decide +kernel
theorem dX8_serves_61 : decode cX8_serves 61 = .ok (.invokevirtual 120, 3) := by decide +kernel
theorem dX8_serves_64 : decode cX8_serves 64 = .ok (.invokevirtual 84, 3) := by decide +kernel
theorem dX8_serves_67 : decode cX8_serves 67 = .ok (.aload_n 0, 1) := by decide +kernel
theorem dX8_serves_68 : decode cX8_serves 68 = .ok (.iload_n 1, 1) := by decide +kernel
theorem dX8_serves_69 : decode cX8_serves 69 = .ok (.bipush 6, 2) := by decide +kernel
theorem dX8_serves_71 : decode cX8_serves 71 = .ok (.aload_n 0, 1) := by decide +kernel
theorem dX8_serves_72 : decode cX8_serves 72 = .ok (.iload_n 1, 1) := by decide +kernel
theorem dX8_serves_73 : decode cX8_serves 73 = .ok (.bipush 6, 2) := by decide +kernel
theorem dX8_serves_75 : decode cX8_serves 75 = .ok (.invokevirtual 102, 3) := by decide +kernel
theorem dX8_serves_78 : decode cX8_serves 78 = .ok (.iconst 1, 1) := by decide +kernel
theorem dX8_serves_79 : decode cX8_serves 79 = .ok (.iadd, 1) := by decide +kernel
theorem dX8_serves_80 : decode cX8_serves 80 = .ok (.invokevirtual 84, 3) := by decide +kernel
theorem dX8_serves_83 : decode cX8_serves 83 = .ok (.aload_n 0, 1) := by decide +kernel
theorem dX8_serves_84 : decode cX8_serves 84 = .ok (.iload_n 1, 1) := by decide +kernel
theorem dX8_serves_85 : decode cX8_serves 85 = .ok (.iconst 4, 1) := by decide +kernel
theorem dX8_serves_86 : decode cX8_serves 86 = .ok (.aload_n 0, 1) := by decide +kernel
theorem dX8_serves_87 : decode cX8_serves 87 = .ok (.iload_n 1, 1) := by decide +kernel
theorem dX8_serves_88 : decode cX8_serves 88 = .ok (.iconst 4, 1) := by decide +kernel
theorem dX8_serves_89 : decode cX8_serves 89 = .ok (.invokevirtual 102, 3) := by decide +kernel
theorem dX8_serves_92 : decode cX8_serves 92 = .ok (.iload 4, 2) := by decide +kernel
theorem dX8_serves_94 : decode cX8_serves 94 = .ok (.iadd, 1) := by decide +kernel
theorem dX8_serves_95 : decode cX8_serves 95 = .ok (.iload 5, 2) := by decide +kernel
theorem dX8_serves_97 : decode cX8_serves 97 = .ok (.isub, 1) := by decide +kernel
theorem dX8_serves_98 : decode cX8_serves 98 = .ok (.invokevirtual 84, 3) := by decide +kernel
theorem dX8_serves_101 : decode cX8_serves 101 = .ok (.aload_n 0, 1) := by decide +kernel
theorem dX8_serves_102 : decode cX8_serves 102 = .ok (.getfield 9, 3) := by decide +kernel
theorem dX8_serves_105 : decode cX8_serves 105 = .ok (.bipush 6, 2) := by decide +kernel
theorem dX8_serves_107 : decode cX8_serves 107 = .ok (.dup2, 1) := by decide +kernel
theorem dX8_serves_108 : decode cX8_serves 108 = .ok (.iaload, 1) := by decide +kernel
theorem dX8_serves_109 : decode cX8_serves 109 = .ok (.iload 5, 2) := by decide +kernel
theorem dX8_serves_111 : decode cX8_serves 111 = .ok (.iadd, 1) := by decide +kernel
theorem dX8_serves_112 : decode cX8_serves 112 = .ok (.iastore, 1) := by decide +kernel
theorem dX8_serves_113 : decode cX8_serves 113 = .ok (.return_, 1) := by decide +kernel
theorem dX8_man_0 : decode cX8_man 0 = .ok (.aload_n 0, 1) := by decide +kernel
theorem dX8_man_1 : decode cX8_man 1 = .ok (.invokevirtual 140, 3) := by decide +kernel
theorem dX8_man_4 : decode cX8_man 4 = .ok (.bipush 10, 2) := by decide +kernel
theorem dX8_man_6 : decode cX8_man 6 = .ok (.irem, 1) := by decide +kernel
theorem dX8_man_7 : decode cX8_man 7 = .ok (.istore_n 1, 1) := by decide +kernel
theorem dX8_man_8 : decode cX8_man 8 = .ok (.aload_n 0, 1) := by decide +kernel
theorem dX8_man_9 : decode cX8_man 9 = .ok (.invokevirtual 140, 3) := by decide +kernel
theorem dX8_man_12 : decode cX8_man 12 = .ok (.bipush 10, 2) := by decide +kernel
theorem dX8_man_14 : decode cX8_man 14 = .ok (.irem, 1) := by decide +kernel
theorem dX8_man_15 : decode cX8_man 15 = .ok (.istore_n 2, 1) := by decide +kernel
theorem dX8_man_16 : decode cX8_man 16 = .ok (.iconst 1, 1) := by decide +kernel
theorem dX8_man_17 : decode cX8_man 17 = .ok (.aload_n 0, 1) := by decide +kernel
theorem dX8_man_18 : decode cX8_man 18 = .ok (.invokevirtual 140, 3) := by decide +kernel
theorem dX8_man_21 : decode cX8_man 21 = .ok (.bipush 9, 2) := by decide +kernel
theorem dX8_man_23 : decode cX8_man 23 = .ok (.irem, 1) := by decide +kernel
theorem dX8_man_24 : decode cX8_man 24 = .ok (.iadd, 1) := by decide +kernel
theorem dX8_man_25 : decode cX8_man 25 = .ok (.istore_n 3, 1) := by decide +kernel
theorem dX8_man_26 : decode cX8_man 26 = .ok (.aload_n 0, 1) := by decide +kernel
theorem dX8_man_27 : decode cX8_man 27 = .ok (.iload_n 1, 1) := by decide +kernel
theorem dX8_man_28 : decode cX8_man 28 = .ok (.iload_n 3, 1) := by decide +kernel
theorem dX8_man_29 : decode cX8_man 29 = .ok (.invokevirtual 147, 3) := by decide +kernel
theorem dX8_man_32 : decode cX8_man 32 = .ok (.istore 4, 2) := by decide +kernel
theorem dX8_man_34 : decode cX8_man 34 = .ok (.iload 4, 2) := by decide +kernel
theorem dX8_man_36 : decode cX8_man 36 = .ok (.ifCond .ge 15, 3) := by decide +kernel
theorem dX8_man_39 : decode cX8_man 39 = .ok (.aload_n 0, 1) := by decide +kernel
theorem dX8_man_40 : decode cX8_man 40 = .ok (.getfield 9, 3) := by decide +kernel
theorem dX8_man_43 : decode cX8_man 43 = .ok (.bipush 7, 2) := by decide +kernel
theorem dX8_man_45 : decode cX8_man 45 = .ok (.dup2, 1) := by decide +kernel
theorem dX8_man_46 : decode cX8_man 46 = .ok (.iaload, 1) := by decide +kernel
theorem dX8_man_47 : decode cX8_man 47 = .ok (.iconst 1, 1) := by decide +kernel
theorem dX8_man_48 : decode cX8_man 48 = .ok (.iadd, 1) := by decide +kernel
theorem dX8_man_49 : decode cX8_man 49 = .ok (.iastore, 1) := by decide +kernel
theorem dX8_man_50 : decode cX8_man 50 = .ok (.return_, 1) := by decide +kernel
theorem dX8_man_51 : decode cX8_man 51 = .ok (.aload_n 0, 1) := by decide +kernel
theorem dX8_man_52 : decode cX8_man 52 = .ok (.iload 4, 2) := by decide +kernel
theorem dX8_man_54 : decode cX8_man 54 = .ok (.iload_n 2, 1) := by decide +kernel
theorem dX8_man_55 : decode cX8_man 55 = .ok (.invokevirtual 150, 3) := by decide +kernel
theorem dX8_man_58 : decode cX8_man 58 = .ok (.return_, 1) := by decide +kernel
theorem dX8_minute_0 : decode cX8_minute 0 = .ok (.iconst 0, 1) := by decide +kernel
theorem dX8_minute_1 : decode cX8_minute 1 = .ok (.istore_n 1, 1) := by decide +kernel
theorem dX8_minute_2 : decode cX8_minute 2 = .ok (.iload_n 1, 1) := by decide +kernel
theorem dX8_minute_3 : decode cX8_minute 3 = .ok (.aload_n 0, 1) := by decide +kernel
theorem dX8_minute_4 : decode cX8_minute 4 = .ok (.getfield 9, 3) := by decide +kernel
theorem dX8_minute_7 : decode cX8_minute 7 = .ok (.iconst 1, 1) := by decide +kernel
theorem dX8_minute_8 : decode cX8_minute 8 = .ok (.iaload, 1) := by decide +kernel
theorem dX8_minute_9 : decode cX8_minute 9 = .ok (.if_icmp .ge 29, 3) := by decide +kernel
theorem dX8_minute_12 : decode cX8_minute 12 = .ok (.aload_n 0, 1) := by decide +kernel
theorem dX8_minute_13 : decode cX8_minute 13 = .ok (.iload_n 1, 1) := by decide +kernel
theorem dX8_minute_14 : decode cX8_minute 14 = .ok (.iconst 5, 1) := by decide +kernel
theorem dX8_minute_15 : decode cX8_minute 15 = .ok (.aload_n 0, 1) := by decide +kernel
theorem dX8_minute_16 : decode cX8_minute 16 = .ok (.iload_n 1, 1) := by decide +kernel
theorem dX8_minute_17 : decode cX8_minute 17 = .ok (.iconst 5, 1) := by decide +kernel
theorem dX8_minute_18 : decode cX8_minute 18 = .ok (.invokevirtual 102, 3) := by decide +kernel
theorem dX8_minute_21 : decode cX8_minute 21 = .ok (.iconst 1, 1) := by decide +kernel
theorem dX8_minute_22 : decode cX8_minute 22 = .ok (.isub, 1) := by decide +kernel
theorem dX8_minute_23 : decode cX8_minute 23 = .ok (.iconst 0, 1) := by decide +kernel
theorem dX8_minute_24 : decode cX8_minute 24 = .ok (.bipush 99, 2) := by decide +kernel
theorem dX8_minute_26 : decode cX8_minute 26 = .ok (.invokestatic 109, 3) := by decide +kernel
theorem dX8_minute_29 : decode cX8_minute 29 = .ok (.invokevirtual 84, 3) := by decide +kernel
theorem dX8_minute_32 : decode cX8_minute 32 = .ok (.iinc 1 1, 3) := by decide +kernel
theorem dX8_minute_35 : decode cX8_minute 35 = .ok (.goto (-33), 3) := by decide +kernel
theorem dX8_minute_38 : decode cX8_minute 38 = .ok (.aload_n 0, 1) := by decide +kernel
theorem dX8_minute_39 : decode cX8_minute 39 = .ok (.getfield 9, 3) := by decide +kernel
theorem dX8_minute_42 : decode cX8_minute 42 = .ok (.iconst 5, 1) := by decide +kernel
theorem dX8_minute_43 : decode cX8_minute 43 = .ok (.iaload, 1) := by decide +kernel
theorem dX8_minute_44 : decode cX8_minute 44 = .ok (.istore_n 1, 1) := by decide +kernel
theorem dX8_minute_45 : decode cX8_minute 45 = .ok (.aload_n 0, 1) := by decide +kernel
theorem dX8_minute_46 : decode cX8_minute 46 = .ok (.invokevirtual 140, 3) := by decide +kernel
theorem dX8_minute_49 : decode cX8_minute 49 = .ok (.bipush 100, 2) := by decide +kernel
theorem dX8_minute_51 : decode cX8_minute 51 = .ok (.irem, 1) := by decide +kernel
theorem dX8_minute_52 : decode cX8_minute 52 = .ok (.aload_n 0, 1) := by decide +kernel
theorem dX8_minute_53 : decode cX8_minute 53 = .ok (.getfield 9, 3) := by decide +kernel
theorem dX8_minute_56 : decode cX8_minute 56 = .ok (.iconst 4, 1) := by decide +kernel
theorem dX8_minute_57 : decode cX8_minute 57 = .ok (.iaload, 1) := by decide +kernel
theorem dX8_minute_58 : decode cX8_minute 58 = .ok (.if_icmp .ge 12, 3) := by decide +kernel
theorem dX8_minute_61 : decode cX8_minute 61 = .ok (.aload_n 0, 1) := by decide +kernel
theorem dX8_minute_62 : decode cX8_minute 62 = .ok (.getfield 9, 3) := by decide +kernel
theorem dX8_minute_65 : decode cX8_minute 65 = .ok (.iconst 5, 1) := by decide +kernel
theorem dX8_minute_66 : decode cX8_minute 66 = .ok (.iconst 1, 1) := by decide +kernel
theorem dX8_minute_67 : decode cX8_minute 67 = .ok (.iload_n 1, 1) := by decide +kernel
theorem dX8_minute_68 : decode cX8_minute 68 = .ok (.isub, 1) := by decide +kernel
theorem dX8_minute_69 : decode cX8_minute 69 = .ok (.iastore, 1) := by decide +kernel
theorem dX8_minute_70 : decode cX8_minute 70 = .ok (.aload_n 0, 1) := by decide +kernel
theorem dX8_minute_71 : decode cX8_minute 71 = .ok (.invokevirtual 140, 3) := by decide +kernel
theorem dX8_minute_74 : decode cX8_minute 74 = .ok (.iconst 3, 1) := by decide +kernel
theorem dX8_minute_75 : decode cX8_minute 75 = .ok (.irem, 1) := by decide +kernel
theorem dX8_minute_76 : decode cX8_minute 76 = .ok (.iload_n 1, 1) := by decide +kernel
theorem dX8_minute_77 : decode cX8_minute 77 = .ok (.iconst 1, 1) := by decide +kernel
theorem dX8_minute_78 : decode cX8_minute 78 = .ok (.if_icmp .ne 7, 3) := by decide +kernel
theorem dX8_minute_81 : decode cX8_minute 81 = .ok (.iconst 2, 1) := by decide +kernel
theorem dX8_minute_82 : decode cX8_minute 82 = .ok (.goto 4, 3) := by decide +kernel
theorem dX8_minute_85 : decode cX8_minute 85 = .ok (.iconst 0, 1) := by decide +kernel
theorem dX8_minute_86 : decode cX8_minute 86 = .ok (.iadd, 1) := by decide +kernel
theorem dX8_minute_87 : decode cX8_minute 87 = .ok (.istore_n 2, 1) := by decide +kernel
theorem dX8_minute_88 : decode cX8_minute 88 = .ok (.iconst 0, 1) := by decide +kernel
theorem dX8_minute_89 : decode cX8_minute 89 = .ok (.istore_n 3, 1) := by decide +kernel
theorem dX8_minute_90 : decode cX8_minute 90 = .ok (.iload_n 3, 1) := by decide +kernel
theorem dX8_minute_91 : decode cX8_minute 91 = .ok (.iload_n 2, 1) := by decide +kernel
theorem dX8_minute_92 : decode cX8_minute 92 = .ok (.if_icmp .ge 22, 3) := by decide +kernel
theorem dX8_minute_95 : decode cX8_minute 95 = .ok (.aload_n 0, 1) := by decide +kernel
theorem dX8_minute_96 : decode cX8_minute 96 = .ok (.getfield 9, 3) := by decide +kernel
theorem dX8_minute_99 : decode cX8_minute 99 = .ok (.iconst 5, 1) := by decide +kernel
theorem dX8_minute_100 : decode cX8_minute 100 = .ok (.iaload, 1) := by decide +kernel
theorem dX8_minute_101 : decode cX8_minute 101 = .ok (.ifCond .ne 13, 3) := by decide +kernel
theorem dX8_minute_104 : decode cX8_minute 104 = .ok (.aload_n 0, 1) := by decide +kernel
theorem dX8_minute_105 : decode cX8_minute 105 = .ok (.invokevirtual 154, 3) := by decide +kernel
theorem dX8_minute_108 : decode cX8_minute 108 = .ok (.iinc 3 1, 3) := by decide +kernel
theorem dX8_minute_111 : decode cX8_minute 111 = .ok (.goto (-21), 3) := by decide +kernel
theorem dX8_minute_114 : decode cX8_minute 114 = .ok (.aload_n 0, 1) := by decide +kernel
theorem dX8_minute_115 : decode cX8_minute 115 = .ok (.getfield 9, 3) := by decide +kernel
theorem dX8_minute_118 : decode cX8_minute 118 = .ok (.iconst 2, 1) := by decide +kernel
theorem dX8_minute_119 : decode cX8_minute 119 = .ok (.dup2, 1) := by decide +kernel
theorem dX8_minute_120 : decode cX8_minute 120 = .ok (.iaload, 1) := by decide +kernel
theorem dX8_minute_121 : decode cX8_minute 121 = .ok (.iconst 1, 1) := by decide +kernel
theorem dX8_minute_122 : decode cX8_minute 122 = .ok (.iadd, 1) := by decide +kernel
theorem dX8_minute_123 : decode cX8_minute 123 = .ok (.iastore, 1) := by decide +kernel
theorem dX8_minute_124 : decode cX8_minute 124 = .ok (.return_, 1) := by decide +kernel
theorem dX8_goesOn_0 : decode cX8_goesOn 0 = .ok (.iconst 0, 1) := by decide +kernel
theorem dX8_goesOn_1 : decode cX8_goesOn 1 = .ok (.istore_n 2, 1) := by decide +kernel
theorem dX8_goesOn_2 : decode cX8_goesOn 2 = .ok (.iload_n 2, 1) := by decide +kernel
theorem dX8_goesOn_3 : decode cX8_goesOn 3 = .ok (.iload_n 1, 1) := by decide +kernel
theorem dX8_goesOn_4 : decode cX8_goesOn 4 = .ok (.if_icmp .ge 13, 3) := by decide +kernel
theorem dX8_goesOn_7 : decode cX8_goesOn 7 = .ok (.aload_n 0, 1) := by decide +kernel
theorem dX8_goesOn_8 : decode cX8_goesOn 8 = .ok (.invokevirtual 157, 3) := by decide +kernel
theorem dX8_goesOn_11 : decode cX8_goesOn 11 = .ok (.iinc 2 1, 3) := by decide +kernel
theorem dX8_goesOn_14 : decode cX8_goesOn 14 = .ok (.goto (-12), 3) := by decide +kernel
theorem dX8_goesOn_17 : decode cX8_goesOn 17 = .ok (.return_, 1) := by decide +kernel
theorem dX8_sumOf_0 : decode cX8_sumOf 0 = .ok (.iconst 0, 1) := by decide +kernel
theorem dX8_sumOf_1 : decode cX8_sumOf 1 = .ok (.istore_n 2, 1) := by decide +kernel
theorem dX8_sumOf_2 : decode cX8_sumOf 2 = .ok (.iconst 0, 1) := by decide +kernel
theorem dX8_sumOf_3 : decode cX8_sumOf 3 = .ok (.istore_n 3, 1) := by decide +kernel
theorem dX8_sumOf_4 : decode cX8_sumOf 4 = .ok (.iload_n 3, 1) := by decide +kernel
theorem dX8_sumOf_5 : decode cX8_sumOf 5 = .ok (.aload_n 0, 1) := by decide +kernel
theorem dX8_sumOf_6 : decode cX8_sumOf 6 = .ok (.getfield 9, 3) := by decide +kernel
theorem dX8_sumOf_9 : decode cX8_sumOf 9 = .ok (.iconst 1, 1) := by decide +kernel
theorem dX8_sumOf_10 : decode cX8_sumOf 10 = .ok (.iaload, 1) := by decide +kernel
theorem dX8_sumOf_11 : decode cX8_sumOf 11 = .ok (.if_icmp .ge 18, 3) := by decide +kernel
theorem dX8_sumOf_14 : decode cX8_sumOf 14 = .ok (.iload_n 2, 1) := by decide +kernel
theorem dX8_sumOf_15 : decode cX8_sumOf 15 = .ok (.aload_n 0, 1) := by decide +kernel
theorem dX8_sumOf_16 : decode cX8_sumOf 16 = .ok (.iload_n 3, 1) := by decide +kernel
theorem dX8_sumOf_17 : decode cX8_sumOf 17 = .ok (.iload_n 1, 1) := by decide +kernel
theorem dX8_sumOf_18 : decode cX8_sumOf 18 = .ok (.invokevirtual 102, 3) := by decide +kernel
theorem dX8_sumOf_21 : decode cX8_sumOf 21 = .ok (.iadd, 1) := by decide +kernel
theorem dX8_sumOf_22 : decode cX8_sumOf 22 = .ok (.istore_n 2, 1) := by decide +kernel
theorem dX8_sumOf_23 : decode cX8_sumOf 23 = .ok (.iinc 3 1, 3) := by decide +kernel
theorem dX8_sumOf_26 : decode cX8_sumOf 26 = .ok (.goto (-22), 3) := by decide +kernel
theorem dX8_sumOf_29 : decode cX8_sumOf 29 = .ok (.iload_n 2, 1) := by decide +kernel
theorem dX8_sumOf_30 : decode cX8_sumOf 30 = .ok (.ireturn, 1) := by decide +kernel
theorem dX8_minutes_0 : decode cX8_minutes 0 = .ok (.iload_n 1, 1) := by decide +kernel
theorem dX8_minutes_1 : decode cX8_minutes 1 = .ok (.iconst 1, 1) := by decide +kernel
theorem dX8_minutes_2 : decode cX8_minutes 2 = .ok (.sipush 300, 3) := by decide +kernel
theorem dX8_minutes_5 : decode cX8_minutes 5 = .ok (.invokestatic 80, 3) := by decide +kernel
theorem dX8_minutes_8 : decode cX8_minutes 8 = .ok (.ifCond .ne 6, 3) := by decide +kernel
theorem dX8_minutes_11 : decode cX8_minutes 11 = .ok (.ldc 92, 2) := by decide +kernel
theorem dX8_minutes_13 : decode cX8_minutes 13 = .ok (.ireturn, 1) := by decide +kernel
theorem dX8_minutes_14 : decode cX8_minutes 14 = .ok (.aload_n 0, 1) := by decide +kernel
theorem dX8_minutes_15 : decode cX8_minutes 15 = .ok (.bipush 6, 2) := by decide +kernel
theorem dX8_minutes_17 : decode cX8_minutes 17 = .ok (.invokevirtual 160, 3) := by decide +kernel
theorem dX8_minutes_20 : decode cX8_minutes 20 = .ok (.istore_n 2, 1) := by decide +kernel
theorem dX8_minutes_21 : decode cX8_minutes 21 = .ok (.aload_n 0, 1) := by decide +kernel
theorem dX8_minutes_22 : decode cX8_minutes 22 = .ok (.sipush 9999, 3) := by decide +kernel
theorem dX8_minutes_25 : decode cX8_minutes 25 = .ok (.aload_n 0, 1) := by decide +kernel
theorem dX8_minutes_26 : decode cX8_minutes 26 = .ok (.getfield 9, 3) := by decide +kernel
theorem dX8_minutes_29 : decode cX8_minutes 29 = .ok (.iconst 2, 1) := by decide +kernel
theorem dX8_minutes_30 : decode cX8_minutes 30 = .ok (.iaload, 1) := by decide +kernel
theorem dX8_minutes_31 : decode cX8_minutes 31 = .ok (.isub, 1) := by decide +kernel
theorem dX8_minutes_32 : decode cX8_minutes 32 = .ok (.iconst 0, 1) := by decide +kernel
theorem dX8_minutes_33 : decode cX8_minutes 33 = .ok (.iload_n 1, 1) := by decide +kernel
theorem dX8_minutes_34 : decode cX8_minutes 34 = .ok (.invokestatic 109, 3) := by decide +kernel
theorem dX8_minutes_37 : decode cX8_minutes 37 = .ok (.invokevirtual 163, 3) := by decide +kernel
theorem dX8_minutes_40 : decode cX8_minutes 40 = .ok (.aload_n 0, 1) := by decide +kernel
theorem dX8_minutes_41 : decode cX8_minutes 41 = .ok (.bipush 6, 2) := by decide +kernel
theorem dX8_minutes_43 : decode cX8_minutes 43 = .ok (.invokevirtual 160, 3) := by decide +kernel
theorem dX8_minutes_46 : decode cX8_minutes 46 = .ok (.iload_n 2, 1) := by decide +kernel
theorem dX8_minutes_47 : decode cX8_minutes 47 = .ok (.isub, 1) := by decide +kernel
theorem dX8_minutes_48 : decode cX8_minutes 48 = .ok (.ireturn, 1) := by decide +kernel
theorem dX8_busy_0 : decode cX8_busy 0 = .ok (.iconst 0, 1) := by decide +kernel
theorem dX8_busy_1 : decode cX8_busy 1 = .ok (.istore_n 1, 1) := by decide +kernel
theorem dX8_busy_2 : decode cX8_busy 2 = .ok (.iconst 0, 1) := by decide +kernel
theorem dX8_busy_3 : decode cX8_busy 3 = .ok (.istore_n 2, 1) := by decide +kernel
theorem dX8_busy_4 : decode cX8_busy 4 = .ok (.iload_n 2, 1) := by decide +kernel
theorem dX8_busy_5 : decode cX8_busy 5 = .ok (.aload_n 0, 1) := by decide +kernel
theorem dX8_busy_6 : decode cX8_busy 6 = .ok (.getfield 9, 3) := by decide +kernel
theorem dX8_busy_9 : decode cX8_busy 9 = .ok (.iconst 1, 1) := by decide +kernel
theorem dX8_busy_10 : decode cX8_busy 10 = .ok (.iaload, 1) := by decide +kernel
theorem dX8_busy_11 : decode cX8_busy 11 = .ok (.if_icmp .ge 28, 3) := by decide +kernel
theorem dX8_busy_14 : decode cX8_busy 14 = .ok (.iload_n 1, 1) := by decide +kernel
theorem dX8_busy_15 : decode cX8_busy 15 = .ok (.aload_n 0, 1) := by decide +kernel
theorem dX8_busy_16 : decode cX8_busy 16 = .ok (.iload_n 2, 1) := by decide +kernel
theorem dX8_busy_17 : decode cX8_busy 17 = .ok (.iconst 5, 1) := by decide +kernel
theorem dX8_busy_18 : decode cX8_busy 18 = .ok (.invokevirtual 102, 3) := by decide +kernel
theorem dX8_busy_21 : decode cX8_busy 21 = .ok (.ifCond .le 9, 3) := by decide +kernel
theorem dX8_busy_24 : decode cX8_busy 24 = .ok (.iconst 1, 1) := by decide +kernel
theorem dX8_busy_25 : decode cX8_busy 25 = .ok (.iload_n 2, 1) := by decide +kernel
theorem dX8_busy_26 : decode cX8_busy 26 = .ok (.ishl, 1) := by decide +kernel
theorem dX8_busy_27 : decode cX8_busy 27 = .ok (.goto 4, 3) := by decide +kernel
theorem dX8_busy_30 : decode cX8_busy 30 = .ok (.iconst 0, 1) := by decide +kernel
theorem dX8_busy_31 : decode cX8_busy 31 = .ok (.ior, 1) := by decide +kernel
theorem dX8_busy_32 : decode cX8_busy 32 = .ok (.istore_n 1, 1) := by decide +kernel
theorem dX8_busy_33 : decode cX8_busy 33 = .ok (.iinc 2 1, 3) := by decide +kernel
theorem dX8_busy_36 : decode cX8_busy 36 = .ok (.goto (-32), 3) := by decide +kernel
theorem dX8_busy_39 : decode cX8_busy 39 = .ok (.iload_n 1, 1) := by decide +kernel
theorem dX8_busy_40 : decode cX8_busy 40 = .ok (.ireturn, 1) := by decide +kernel
theorem dX8_street_0 : decode cX8_street 0 = .ok (.iload_n 1, 1) := by decide +kernel
theorem dX8_street_1 : decode cX8_street 1 = .ok (.tableswitch 69 0 4 #[35, 41, 49, 57, 64], 35) := by decide +kernel
theorem dX8_street_36 : decode cX8_street 36 = .ok (.aload_n 0, 1) := by decide +kernel
theorem dX8_street_37 : decode cX8_street 37 = .ok (.iconst 4, 1) := by decide +kernel
theorem dX8_street_38 : decode cX8_street 38 = .ok (.invokevirtual 160, 3) := by decide +kernel
theorem dX8_street_41 : decode cX8_street 41 = .ok (.ireturn, 1) := by decide +kernel
theorem dX8_street_42 : decode cX8_street 42 = .ok (.aload_n 0, 1) := by decide +kernel
theorem dX8_street_43 : decode cX8_street 43 = .ok (.getfield 9, 3) := by decide +kernel
theorem dX8_street_46 : decode cX8_street 46 = .ok (.bipush 6, 2) := by decide +kernel
theorem dX8_street_48 : decode cX8_street 48 = .ok (.iaload, 1) := by decide +kernel
theorem dX8_street_49 : decode cX8_street 49 = .ok (.ireturn, 1) := by decide +kernel
theorem dX8_street_50 : decode cX8_street 50 = .ok (.aload_n 0, 1) := by decide +kernel
theorem dX8_street_51 : decode cX8_street 51 = .ok (.getfield 9, 3) := by decide +kernel
theorem dX8_street_54 : decode cX8_street 54 = .ok (.bipush 7, 2) := by decide +kernel
theorem dX8_street_56 : decode cX8_street 56 = .ok (.iaload, 1) := by decide +kernel
theorem dX8_street_57 : decode cX8_street 57 = .ok (.ireturn, 1) := by decide +kernel
theorem dX8_street_58 : decode cX8_street 58 = .ok (.aload_n 0, 1) := by decide +kernel
theorem dX8_street_59 : decode cX8_street 59 = .ok (.bipush 6, 2) := by decide +kernel
theorem dX8_street_61 : decode cX8_street 61 = .ok (.invokevirtual 160, 3) := by decide +kernel
theorem dX8_street_64 : decode cX8_street 64 = .ok (.ireturn, 1) := by decide +kernel
theorem dX8_street_65 : decode cX8_street 65 = .ok (.aload_n 0, 1) := by decide +kernel
theorem dX8_street_66 : decode cX8_street 66 = .ok (.invokevirtual 167, 3) := by decide +kernel
theorem dX8_street_69 : decode cX8_street 69 = .ok (.ireturn, 1) := by decide +kernel
theorem dX8_street_70 : decode cX8_street 70 = .ok (.ldc 92, 2) := by decide +kernel
theorem dX8_street_72 : decode cX8_street 72 = .ok (.ireturn, 1) := by decide +kernel
theorem dX8_goesTo_0 : decode cX8_goesTo 0 = .ok (.iload_n 1, 1) := by decide +kernel
theorem dX8_goesTo_1 : decode cX8_goesTo 1 = .ok (.iconst 0, 1) := by decide +kernel
theorem dX8_goesTo_2 : decode cX8_goesTo 2 = .ok (.bipush 9, 2) := by decide +kernel
theorem dX8_goesTo_4 : decode cX8_goesTo 4 = .ok (.invokestatic 80, 3) := by decide +kernel
theorem dX8_goesTo_7 : decode cX8_goesTo 7 = .ok (.ifCond .eq 25, 3) := by decide +kernel
theorem dX8_goesTo_10 : decode cX8_goesTo 10 = .ok (.iload_n 2, 1) := by decide +kernel
theorem dX8_goesTo_11 : decode cX8_goesTo 11 = .ok (.iconst 1, 1) := by decide +kernel
theorem dX8_goesTo_12 : decode cX8_goesTo 12 = .ok (.bipush 9, 2) := by decide +kernel
theorem dX8_goesTo_14 : decode cX8_goesTo 14 = .ok (.invokestatic 80, 3) := by decide +kernel
theorem dX8_goesTo_17 : decode cX8_goesTo 17 = .ok (.ifCond .eq 15, 3) := by decide +kernel
theorem dX8_goesTo_20 : decode cX8_goesTo 20 = .ok (.aload_n 0, 1) := by decide +kernel
theorem dX8_goesTo_21 : decode cX8_goesTo 21 = .ok (.iload_n 1, 1) := by decide +kernel
theorem dX8_goesTo_22 : decode cX8_goesTo 22 = .ok (.iload_n 2, 1) := by decide +kernel
theorem dX8_goesTo_23 : decode cX8_goesTo 23 = .ok (.invokevirtual 147, 3) := by decide +kernel
theorem dX8_goesTo_26 : decode cX8_goesTo 26 = .ok (.invokestatic 170, 3) := by decide +kernel
theorem dX8_goesTo_29 : decode cX8_goesTo 29 = .ok (.goto 5, 3) := by decide +kernel
theorem dX8_goesTo_32 : decode cX8_goesTo 32 = .ok (.ldc 92, 2) := by decide +kernel
theorem dX8_goesTo_34 : decode cX8_goesTo 34 = .ok (.ireturn, 1) := by decide +kernel
theorem dX8_thinks_0 : decode cX8_thinks 0 = .ok (.iconst 0, 1) := by decide +kernel
theorem dX8_thinks_1 : decode cX8_thinks 1 = .ok (.istore_n 1, 1) := by decide +kernel
theorem dX8_thinks_2 : decode cX8_thinks 2 = .ok (.iload_n 1, 1) := by decide +kernel
theorem dX8_thinks_3 : decode cX8_thinks 3 = .ok (.bipush 65, 2) := by decide +kernel
theorem dX8_thinks_5 : decode cX8_thinks 5 = .ok (.if_icmp .ge 21, 3) := by decide +kernel
theorem dX8_thinks_8 : decode cX8_thinks 8 = .ok (.aload_n 0, 1) := by decide +kernel
theorem dX8_thinks_9 : decode cX8_thinks 9 = .ok (.getfield 23, 3) := by decide +kernel
theorem dX8_thinks_12 : decode cX8_thinks 12 = .ok (.iload_n 1, 1) := by decide +kernel
theorem dX8_thinks_13 : decode cX8_thinks 13 = .ok (.aload_n 0, 1) := by decide +kernel
theorem dX8_thinks_14 : decode cX8_thinks 14 = .ok (.getfield 9, 3) := by decide +kernel
theorem dX8_thinks_17 : decode cX8_thinks 17 = .ok (.iload_n 1, 1) := by decide +kernel
theorem dX8_thinks_18 : decode cX8_thinks 18 = .ok (.iaload, 1) := by decide +kernel
theorem dX8_thinks_19 : decode cX8_thinks 19 = .ok (.iastore, 1) := by decide +kernel
theorem dX8_thinks_20 : decode cX8_thinks 20 = .ok (.iinc 1 1, 3) := by decide +kernel
theorem dX8_thinks_23 : decode cX8_thinks 23 = .ok (.goto (-21), 3) := by decide +kernel
theorem dX8_thinks_26 : decode cX8_thinks 26 = .ok (.return_, 1) := by decide +kernel
theorem dX8_putsBack_0 : decode cX8_putsBack 0 = .ok (.iconst 0, 1) := by decide +kernel
theorem dX8_putsBack_1 : decode cX8_putsBack 1 = .ok (.istore_n 1, 1) := by decide +kernel
theorem dX8_putsBack_2 : decode cX8_putsBack 2 = .ok (.iload_n 1, 1) := by decide +kernel
theorem dX8_putsBack_3 : decode cX8_putsBack 3 = .ok (.bipush 65, 2) := by decide +kernel
theorem dX8_putsBack_5 : decode cX8_putsBack 5 = .ok (.if_icmp .ge 21, 3) := by decide +kernel
theorem dX8_putsBack_8 : decode cX8_putsBack 8 = .ok (.aload_n 0, 1) := by decide +kernel
theorem dX8_putsBack_9 : decode cX8_putsBack 9 = .ok (.getfield 9, 3) := by decide +kernel
theorem dX8_putsBack_12 : decode cX8_putsBack 12 = .ok (.iload_n 1, 1) := by decide +kernel
theorem dX8_putsBack_13 : decode cX8_putsBack 13 = .ok (.aload_n 0, 1) := by decide +kernel
theorem dX8_putsBack_14 : decode cX8_putsBack 14 = .ok (.getfield 23, 3) := by decide +kernel
theorem dX8_putsBack_17 : decode cX8_putsBack 17 = .ok (.iload_n 1, 1) := by decide +kernel
theorem dX8_putsBack_18 : decode cX8_putsBack 18 = .ok (.iaload, 1) := by decide +kernel
theorem dX8_putsBack_19 : decode cX8_putsBack 19 = .ok (.iastore, 1) := by decide +kernel
theorem dX8_putsBack_20 : decode cX8_putsBack 20 = .ok (.iinc 1 1, 3) := by decide +kernel
theorem dX8_putsBack_23 : decode cX8_putsBack 23 = .ok (.goto (-21), 3) := by decide +kernel
theorem dX8_putsBack_26 : decode cX8_putsBack 26 = .ok (.aload_n 0, 1) := by decide +kernel
theorem dX8_putsBack_27 : decode cX8_putsBack 27 = .ok (.iconst (-1), 1) := by decide +kernel
theorem dX8_putsBack_28 : decode cX8_putsBack 28 = .ok (.putfield 19, 3) := by decide +kernel
theorem dX8_putsBack_31 : decode cX8_putsBack 31 = .ok (.return_, 1) := by decide +kernel
theorem dX8_behind_0 : decode cX8_behind 0 = .ok (.iload_n 1, 1) := by decide +kernel
theorem dX8_behind_1 : decode cX8_behind 1 = .ok (.iconst 0, 1) := by decide +kernel
theorem dX8_behind_2 : decode cX8_behind 2 = .ok (.sipush 300, 3) := by decide +kernel
theorem dX8_behind_5 : decode cX8_behind 5 = .ok (.invokestatic 80, 3) := by decide +kernel
theorem dX8_behind_8 : decode cX8_behind 8 = .ok (.ifCond .eq 22, 3) := by decide +kernel
theorem dX8_behind_11 : decode cX8_behind 11 = .ok (.iload_n 2, 1) := by decide +kernel
theorem dX8_behind_12 : decode cX8_behind 12 = .ok (.ifCond .lt 18, 3) := by decide +kernel
theorem dX8_behind_15 : decode cX8_behind 15 = .ok (.iload_n 2, 1) := by decide +kernel
theorem dX8_behind_16 : decode cX8_behind 16 = .ok (.iconst 2, 1) := by decide +kernel
theorem dX8_behind_17 : decode cX8_behind 17 = .ok (.if_icmp .le 16, 3) := by decide +kernel
theorem dX8_behind_20 : decode cX8_behind 20 = .ok (.aload_n 0, 1) := by decide +kernel
theorem dX8_behind_21 : decode cX8_behind 21 = .ok (.iload_n 2, 1) := by decide +kernel
theorem dX8_behind_22 : decode cX8_behind 22 = .ok (.iconst 3, 1) := by decide +kernel
theorem dX8_behind_23 : decode cX8_behind 23 = .ok (.isub, 1) := by decide +kernel
theorem dX8_behind_24 : decode cX8_behind 24 = .ok (.invokevirtual 116, 3) := by decide +kernel
theorem dX8_behind_27 : decode cX8_behind 27 = .ok (.ifCond .ne 6, 3) := by decide +kernel
theorem dX8_behind_30 : decode cX8_behind 30 = .ok (.ldc 92, 2) := by decide +kernel
theorem dX8_behind_32 : decode cX8_behind 32 = .ok (.ireturn, 1) := by decide +kernel
theorem dX8_behind_33 : decode cX8_behind 33 = .ok (.aload_n 0, 1) := by decide +kernel
theorem dX8_behind_34 : decode cX8_behind 34 = .ok (.invokevirtual 173, 3) := by decide +kernel
theorem dX8_behind_37 : decode cX8_behind 37 = .ok (.aload_n 0, 1) := by decide +kernel
theorem dX8_behind_38 : decode cX8_behind 38 = .ok (.iload_n 1, 1) := by decide +kernel
theorem dX8_behind_39 : decode cX8_behind 39 = .ok (.invokevirtual 163, 3) := by decide +kernel
theorem dX8_behind_42 : decode cX8_behind 42 = .ok (.iload_n 2, 1) := by decide +kernel
theorem dX8_behind_43 : decode cX8_behind 43 = .ok (.iconst 2, 1) := by decide +kernel
theorem dX8_behind_44 : decode cX8_behind 44 = .ok (.if_icmp .le 14, 3) := by decide +kernel
theorem dX8_behind_47 : decode cX8_behind 47 = .ok (.aload_n 0, 1) := by decide +kernel
theorem dX8_behind_48 : decode cX8_behind 48 = .ok (.iload_n 2, 1) := by decide +kernel
theorem dX8_behind_49 : decode cX8_behind 49 = .ok (.iconst 3, 1) := by decide +kernel
theorem dX8_behind_50 : decode cX8_behind 50 = .ok (.isub, 1) := by decide +kernel
theorem dX8_behind_51 : decode cX8_behind 51 = .ok (.iconst 4, 1) := by decide +kernel
theorem dX8_behind_52 : decode cX8_behind 52 = .ok (.invokevirtual 102, 3) := by decide +kernel
theorem dX8_behind_55 : decode cX8_behind 55 = .ok (.goto 8, 3) := by decide +kernel
theorem dX8_behind_58 : decode cX8_behind 58 = .ok (.aload_n 0, 1) := by decide +kernel
theorem dX8_behind_59 : decode cX8_behind 59 = .ok (.iload_n 2, 1) := by decide +kernel
theorem dX8_behind_60 : decode cX8_behind 60 = .ok (.invokevirtual 176, 3) := by decide +kernel
theorem dX8_behind_63 : decode cX8_behind 63 = .ok (.istore_n 3, 1) := by decide +kernel
theorem dX8_behind_64 : decode cX8_behind 64 = .ok (.aload_n 0, 1) := by decide +kernel
theorem dX8_behind_65 : decode cX8_behind 65 = .ok (.invokevirtual 179, 3) := by decide +kernel
theorem dX8_behind_68 : decode cX8_behind 68 = .ok (.iload_n 3, 1) := by decide +kernel
theorem dX8_behind_69 : decode cX8_behind 69 = .ok (.ireturn, 1) := by decide +kernel
theorem dX8_best_0 : decode cX8_best 0 = .ok (.aload_n 0, 1) := by decide +kernel
theorem dX8_best_1 : decode cX8_best 1 = .ok (.iload_n 1, 1) := by decide +kernel
theorem dX8_best_2 : decode cX8_best 2 = .ok (.invokevirtual 116, 3) := by decide +kernel
theorem dX8_best_5 : decode cX8_best 5 = .ok (.ifCond .eq 32, 3) := by decide +kernel
theorem dX8_best_8 : decode cX8_best 8 = .ok (.iload_n 2, 1) := by decide +kernel
theorem dX8_best_9 : decode cX8_best 9 = .ok (.iconst 0, 1) := by decide +kernel
theorem dX8_best_10 : decode cX8_best 10 = .ok (.iconst 2, 1) := by decide +kernel
theorem dX8_best_11 : decode cX8_best 11 = .ok (.invokestatic 80, 3) := by decide +kernel
theorem dX8_best_14 : decode cX8_best 14 = .ok (.ifCond .eq 23, 3) := by decide +kernel
theorem dX8_best_17 : decode cX8_best 17 = .ok (.iload_n 3, 1) := by decide +kernel
theorem dX8_best_18 : decode cX8_best 18 = .ok (.iconst 1, 1) := by decide +kernel
theorem dX8_best_19 : decode cX8_best 19 = .ok (.bipush 60, 2) := by decide +kernel
theorem dX8_best_21 : decode cX8_best 21 = .ok (.invokestatic 80, 3) := by decide +kernel
theorem dX8_best_24 : decode cX8_best 24 = .ok (.ifCond .eq 13, 3) := by decide +kernel
theorem dX8_best_27 : decode cX8_best 27 = .ok (.iload 4, 2) := by decide +kernel
theorem dX8_best_29 : decode cX8_best 29 = .ok (.iconst 0, 1) := by decide +kernel
theorem dX8_best_30 : decode cX8_best 30 = .ok (.iconst 1, 1) := by decide +kernel
theorem dX8_best_31 : decode cX8_best 31 = .ok (.invokestatic 80, 3) := by decide +kernel
theorem dX8_best_34 : decode cX8_best 34 = .ok (.ifCond .ne 6, 3) := by decide +kernel
theorem dX8_best_37 : decode cX8_best 37 = .ok (.ldc 92, 2) := by decide +kernel
theorem dX8_best_39 : decode cX8_best 39 = .ok (.ireturn, 1) := by decide +kernel
theorem dX8_best_40 : decode cX8_best 40 = .ok (.aload_n 0, 1) := by decide +kernel
theorem dX8_best_41 : decode cX8_best 41 = .ok (.invokevirtual 173, 3) := by decide +kernel
theorem dX8_best_44 : decode cX8_best 44 = .ok (.iload_n 2, 1) := by decide +kernel
theorem dX8_best_45 : decode cX8_best 45 = .ok (.ifCond .ne 7, 3) := by decide +kernel
theorem dX8_best_48 : decode cX8_best 48 = .ok (.iconst 3, 1) := by decide +kernel
theorem dX8_best_49 : decode cX8_best 49 = .ok (.goto 13, 3) := by decide +kernel
theorem dX8_best_52 : decode cX8_best 52 = .ok (.iload_n 2, 1) := by decide +kernel
theorem dX8_best_53 : decode cX8_best 53 = .ok (.iconst 1, 1) := by decide +kernel
theorem dX8_best_54 : decode cX8_best 54 = .ok (.if_icmp .ne 7, 3) := by decide +kernel
theorem dX8_best_57 : decode cX8_best 57 = .ok (.iconst 1, 1) := by decide +kernel
theorem dX8_best_58 : decode cX8_best 58 = .ok (.goto 4, 3) := by decide +kernel
theorem dX8_best_61 : decode cX8_best 61 = .ok (.iconst 2, 1) := by decide +kernel
theorem dX8_best_62 : decode cX8_best 62 = .ok (.istore 5, 2) := by decide +kernel
theorem dX8_best_64 : decode cX8_best 64 = .ok (.iload_n 2, 1) := by decide +kernel
theorem dX8_best_65 : decode cX8_best 65 = .ok (.ifCond .ne 8, 3) := by decide +kernel
theorem dX8_best_68 : decode cX8_best 68 = .ok (.bipush 20, 2) := by decide +kernel
theorem dX8_best_70 : decode cX8_best 70 = .ok (.goto 15, 3) := by decide +kernel
theorem dX8_best_73 : decode cX8_best 73 = .ok (.iload_n 2, 1) := by decide +kernel
theorem dX8_best_74 : decode cX8_best 74 = .ok (.iconst 1, 1) := by decide +kernel
theorem dX8_best_75 : decode cX8_best 75 = .ok (.if_icmp .ne 8, 3) := by decide +kernel
theorem dX8_best_78 : decode cX8_best 78 = .ok (.bipush 9, 2) := by decide +kernel
theorem dX8_best_80 : decode cX8_best 80 = .ok (.goto 5, 3) := by decide +kernel
theorem dX8_best_83 : decode cX8_best 83 = .ok (.bipush 40, 2) := by decide +kernel
theorem dX8_best_85 : decode cX8_best 85 = .ok (.istore 6, 2) := by decide +kernel
theorem dX8_best_87 : decode cX8_best 87 = .ok (.iconst (-1), 1) := by decide +kernel
theorem dX8_best_88 : decode cX8_best 88 = .ok (.istore 7, 2) := by decide +kernel
theorem dX8_best_90 : decode cX8_best 90 = .ok (.iconst 0, 1) := by decide +kernel
theorem dX8_best_91 : decode cX8_best 91 = .ok (.istore 8, 2) := by decide +kernel
theorem dX8_best_93 : decode cX8_best 93 = .ok (.iload_n 2, 1) := by decide +kernel
theorem dX8_best_94 : decode cX8_best 94 = .ok (.iconst 1, 1) := by decide +kernel
theorem dX8_best_95 : decode cX8_best 95 = .ok (.if_icmp .ne 7, 3) := by decide +kernel
theorem dX8_best_98 : decode cX8_best 98 = .ok (.iconst 0, 1) := by decide +kernel
theorem dX8_best_99 : decode cX8_best 99 = .ok (.goto 4, 3) := by decide +kernel
theorem dX8_best_102 : decode cX8_best 102 = .ok (.iconst 1, 1) := by decide +kernel
theorem dX8_best_103 : decode cX8_best 103 = .ok (.istore 9, 2) := by decide +kernel
theorem dX8_best_105 : decode cX8_best 105 = .ok (.iload 9, 2) := by decide +kernel
theorem dX8_best_107 : decode cX8_best 107 = .ok (.iload 6, 2) := by decide +kernel
theorem dX8_best_109 : decode cX8_best 109 = .ok (.if_icmp .gt 55, 3) := by decide +kernel
theorem dX8_best_112 : decode cX8_best 112 = .ok (.aload_n 0, 1) := by decide +kernel
theorem dX8_best_113 : decode cX8_best 113 = .ok (.iload_n 1, 1) := by decide +kernel
theorem dX8_best_114 : decode cX8_best 114 = .ok (.iload 5, 2) := by decide +kernel
theorem dX8_best_116 : decode cX8_best 116 = .ok (.iload 9, 2) := by decide +kernel
theorem dX8_best_118 : decode cX8_best 118 = .ok (.invokevirtual 84, 3) := by decide +kernel
theorem dX8_best_121 : decode cX8_best 121 = .ok (.aload_n 0, 1) := by decide +kernel
theorem dX8_best_122 : decode cX8_best 122 = .ok (.iload_n 3, 1) := by decide +kernel
theorem dX8_best_123 : decode cX8_best 123 = .ok (.invokevirtual 163, 3) := by decide +kernel
theorem dX8_best_126 : decode cX8_best 126 = .ok (.aload_n 0, 1) := by decide +kernel
theorem dX8_best_127 : decode cX8_best 127 = .ok (.iload_n 1, 1) := by decide +kernel
theorem dX8_best_128 : decode cX8_best 128 = .ok (.iconst 4, 1) := by decide +kernel
theorem dX8_best_129 : decode cX8_best 129 = .ok (.invokevirtual 102, 3) := by decide +kernel
theorem dX8_best_132 : decode cX8_best 132 = .ok (.istore 10, 2) := by decide +kernel
theorem dX8_best_134 : decode cX8_best 134 = .ok (.aload_n 0, 1) := by decide +kernel
theorem dX8_best_135 : decode cX8_best 135 = .ok (.invokevirtual 179, 3) := by decide +kernel
theorem dX8_best_138 : decode cX8_best 138 = .ok (.iload 7, 2) := by decide +kernel
theorem dX8_best_140 : decode cX8_best 140 = .ok (.ifCond .lt 10, 3) := by decide +kernel
theorem dX8_best_143 : decode cX8_best 143 = .ok (.iload 10, 2) := by decide +kernel
theorem dX8_best_145 : decode cX8_best 145 = .ok (.iload 8, 2) := by decide +kernel
theorem dX8_best_147 : decode cX8_best 147 = .ok (.if_icmp .le 11, 3) := by decide +kernel
theorem dX8_best_150 : decode cX8_best 150 = .ok (.iload 9, 2) := by decide +kernel
theorem dX8_best_152 : decode cX8_best 152 = .ok (.istore 7, 2) := by decide +kernel
theorem dX8_best_154 : decode cX8_best 154 = .ok (.iload 10, 2) := by decide +kernel
theorem dX8_best_156 : decode cX8_best 156 = .ok (.istore 8, 2) := by decide +kernel
theorem dX8_best_158 : decode cX8_best 158 = .ok (.iinc 9 1, 3) := by decide +kernel
theorem dX8_best_161 : decode cX8_best 161 = .ok (.goto (-56), 3) := by decide +kernel
theorem dX8_best_164 : decode cX8_best 164 = .ok (.iload 4, 2) := by decide +kernel
theorem dX8_best_166 : decode cX8_best 166 = .ok (.ifCond .ne 8, 3) := by decide +kernel
theorem dX8_best_169 : decode cX8_best 169 = .ok (.iload 7, 2) := by decide +kernel
theorem dX8_best_171 : decode cX8_best 171 = .ok (.goto 5, 3) := by decide +kernel
theorem dX8_best_174 : decode cX8_best 174 = .ok (.iload 8, 2) := by decide +kernel
theorem dX8_best_176 : decode cX8_best 176 = .ok (.ireturn, 1) := by decide +kernel
theorem dX8_bestShare_0 : decode cX8_bestShare 0 = .ok (.iload_n 1, 1) := by decide +kernel
theorem dX8_bestShare_1 : decode cX8_bestShare 1 = .ok (.iconst 1, 1) := by decide +kernel
theorem dX8_bestShare_2 : decode cX8_bestShare 2 = .ok (.bipush 60, 2) := by decide +kernel
theorem dX8_bestShare_4 : decode cX8_bestShare 4 = .ok (.invokestatic 80, 3) := by decide +kernel
theorem dX8_bestShare_7 : decode cX8_bestShare 7 = .ok (.ifCond .eq 12, 3) := by decide +kernel
theorem dX8_bestShare_10 : decode cX8_bestShare 10 = .ok (.iload_n 2, 1) := by decide +kernel
theorem dX8_bestShare_11 : decode cX8_bestShare 11 = .ok (.iconst 0, 1) := by decide +kernel
theorem dX8_bestShare_12 : decode cX8_bestShare 12 = .ok (.iconst 1, 1) := by decide +kernel
theorem dX8_bestShare_13 : decode cX8_bestShare 13 = .ok (.invokestatic 80, 3) := by decide +kernel
theorem dX8_bestShare_16 : decode cX8_bestShare 16 = .ok (.ifCond .ne 6, 3) := by decide +kernel
theorem dX8_bestShare_19 : decode cX8_bestShare 19 = .ok (.ldc 92, 2) := by decide +kernel
theorem dX8_bestShare_21 : decode cX8_bestShare 21 = .ok (.ireturn, 1) := by decide +kernel
theorem dX8_bestShare_22 : decode cX8_bestShare 22 = .ok (.aload_n 0, 1) := by decide +kernel
theorem dX8_bestShare_23 : decode cX8_bestShare 23 = .ok (.invokevirtual 173, 3) := by decide +kernel
theorem dX8_bestShare_26 : decode cX8_bestShare 26 = .ok (.iconst (-1), 1) := by decide +kernel
theorem dX8_bestShare_27 : decode cX8_bestShare 27 = .ok (.istore_n 3, 1) := by decide +kernel
theorem dX8_bestShare_28 : decode cX8_bestShare 28 = .ok (.iconst 0, 1) := by decide +kernel
theorem dX8_bestShare_29 : decode cX8_bestShare 29 = .ok (.istore 4, 2) := by decide +kernel
theorem dX8_bestShare_31 : decode cX8_bestShare 31 = .ok (.iconst 0, 1) := by decide +kernel
theorem dX8_bestShare_32 : decode cX8_bestShare 32 = .ok (.istore 5, 2) := by decide +kernel
theorem dX8_bestShare_34 : decode cX8_bestShare 34 = .ok (.iload 5, 2) := by decide +kernel
theorem dX8_bestShare_36 : decode cX8_bestShare 36 = .ok (.bipush 100, 2) := by decide +kernel
theorem dX8_bestShare_38 : decode cX8_bestShare 38 = .ok (.if_icmp .ge 53, 3) := by decide +kernel
theorem dX8_bestShare_41 : decode cX8_bestShare 41 = .ok (.aload_n 0, 1) := by decide +kernel
theorem dX8_bestShare_42 : decode cX8_bestShare 42 = .ok (.getfield 9, 3) := by decide +kernel
theorem dX8_bestShare_45 : decode cX8_bestShare 45 = .ok (.iconst 3, 1) := by decide +kernel
theorem dX8_bestShare_46 : decode cX8_bestShare 46 = .ok (.iload 5, 2) := by decide +kernel
theorem dX8_bestShare_48 : decode cX8_bestShare 48 = .ok (.iastore, 1) := by decide +kernel
theorem dX8_bestShare_49 : decode cX8_bestShare 49 = .ok (.aload_n 0, 1) := by decide +kernel
theorem dX8_bestShare_50 : decode cX8_bestShare 50 = .ok (.iload_n 1, 1) := by decide +kernel
theorem dX8_bestShare_51 : decode cX8_bestShare 51 = .ok (.invokevirtual 163, 3) := by decide +kernel
theorem dX8_bestShare_54 : decode cX8_bestShare 54 = .ok (.aload_n 0, 1) := by decide +kernel
theorem dX8_bestShare_55 : decode cX8_bestShare 55 = .ok (.getfield 9, 3) := by decide +kernel
theorem dX8_bestShare_58 : decode cX8_bestShare 58 = .ok (.bipush 6, 2) := by decide +kernel
theorem dX8_bestShare_60 : decode cX8_bestShare 60 = .ok (.iaload, 1) := by decide +kernel
theorem dX8_bestShare_61 : decode cX8_bestShare 61 = .ok (.istore 6, 2) := by decide +kernel
theorem dX8_bestShare_63 : decode cX8_bestShare 63 = .ok (.aload_n 0, 1) := by decide +kernel
theorem dX8_bestShare_64 : decode cX8_bestShare 64 = .ok (.invokevirtual 179, 3) := by decide +kernel
theorem dX8_bestShare_67 : decode cX8_bestShare 67 = .ok (.iload_n 3, 1) := by decide +kernel
theorem dX8_bestShare_68 : decode cX8_bestShare 68 = .ok (.ifCond .lt 10, 3) := by decide +kernel
theorem dX8_bestShare_71 : decode cX8_bestShare 71 = .ok (.iload 6, 2) := by decide +kernel
theorem dX8_bestShare_73 : decode cX8_bestShare 73 = .ok (.iload 4, 2) := by decide +kernel
theorem dX8_bestShare_75 : decode cX8_bestShare 75 = .ok (.if_icmp .le 10, 3) := by decide +kernel
theorem dX8_bestShare_78 : decode cX8_bestShare 78 = .ok (.iload 5, 2) := by decide +kernel
theorem dX8_bestShare_80 : decode cX8_bestShare 80 = .ok (.istore_n 3, 1) := by decide +kernel
theorem dX8_bestShare_81 : decode cX8_bestShare 81 = .ok (.iload 6, 2) := by decide +kernel
theorem dX8_bestShare_83 : decode cX8_bestShare 83 = .ok (.istore 4, 2) := by decide +kernel
theorem dX8_bestShare_85 : decode cX8_bestShare 85 = .ok (.iinc 5 1, 3) := by decide +kernel
theorem dX8_bestShare_88 : decode cX8_bestShare 88 = .ok (.goto (-54), 3) := by decide +kernel
theorem dX8_bestShare_91 : decode cX8_bestShare 91 = .ok (.iload_n 2, 1) := by decide +kernel
theorem dX8_bestShare_92 : decode cX8_bestShare 92 = .ok (.ifCond .ne 7, 3) := by decide +kernel
theorem dX8_bestShare_95 : decode cX8_bestShare 95 = .ok (.iload_n 3, 1) := by decide +kernel
theorem dX8_bestShare_96 : decode cX8_bestShare 96 = .ok (.goto 5, 3) := by decide +kernel
theorem dX8_bestShare_99 : decode cX8_bestShare 99 = .ok (.iload 4, 2) := by decide +kernel
theorem dX8_bestShare_101 : decode cX8_bestShare 101 = .ok (.ireturn, 1) := by decide +kernel
theorem dX8_sentAway_0 : decode cX8_sentAway 0 = .ok (.iload_n 1, 1) := by decide +kernel
theorem dX8_sentAway_1 : decode cX8_sentAway 1 = .ok (.iconst 1, 1) := by decide +kernel
theorem dX8_sentAway_2 : decode cX8_sentAway 2 = .ok (.bipush 60, 2) := by decide +kernel
theorem dX8_sentAway_4 : decode cX8_sentAway 4 = .ok (.invokestatic 80, 3) := by decide +kernel
theorem dX8_sentAway_7 : decode cX8_sentAway 7 = .ok (.ifCond .eq 12, 3) := by decide +kernel
theorem dX8_sentAway_10 : decode cX8_sentAway 10 = .ok (.iload_n 2, 1) := by decide +kernel
theorem dX8_sentAway_11 : decode cX8_sentAway 11 = .ok (.iconst 0, 1) := by decide +kernel
theorem dX8_sentAway_12 : decode cX8_sentAway 12 = .ok (.iconst 1, 1) := by decide +kernel
theorem dX8_sentAway_13 : decode cX8_sentAway 13 = .ok (.invokestatic 80, 3) := by decide +kernel
theorem dX8_sentAway_16 : decode cX8_sentAway 16 = .ok (.ifCond .ne 6, 3) := by decide +kernel
theorem dX8_sentAway_19 : decode cX8_sentAway 19 = .ok (.ldc 92, 2) := by decide +kernel
theorem dX8_sentAway_21 : decode cX8_sentAway 21 = .ok (.ireturn, 1) := by decide +kernel
theorem dX8_sentAway_22 : decode cX8_sentAway 22 = .ok (.aload_n 0, 1) := by decide +kernel
theorem dX8_sentAway_23 : decode cX8_sentAway 23 = .ok (.invokevirtual 173, 3) := by decide +kernel
theorem dX8_sentAway_26 : decode cX8_sentAway 26 = .ok (.iconst (-1), 1) := by decide +kernel
theorem dX8_sentAway_27 : decode cX8_sentAway 27 = .ok (.istore_n 3, 1) := by decide +kernel
theorem dX8_sentAway_28 : decode cX8_sentAway 28 = .ok (.iconst 0, 1) := by decide +kernel
theorem dX8_sentAway_29 : decode cX8_sentAway 29 = .ok (.istore 4, 2) := by decide +kernel
theorem dX8_sentAway_31 : decode cX8_sentAway 31 = .ok (.iconst 0, 1) := by decide +kernel
theorem dX8_sentAway_32 : decode cX8_sentAway 32 = .ok (.istore 5, 2) := by decide +kernel
theorem dX8_sentAway_34 : decode cX8_sentAway 34 = .ok (.iload 5, 2) := by decide +kernel
theorem dX8_sentAway_36 : decode cX8_sentAway 36 = .ok (.aload_n 0, 1) := by decide +kernel
theorem dX8_sentAway_37 : decode cX8_sentAway 37 = .ok (.getfield 9, 3) := by decide +kernel
theorem dX8_sentAway_40 : decode cX8_sentAway 40 = .ok (.iconst 1, 1) := by decide +kernel
theorem dX8_sentAway_41 : decode cX8_sentAway 41 = .ok (.iaload, 1) := by decide +kernel
theorem dX8_sentAway_42 : decode cX8_sentAway 42 = .ok (.if_icmp .ge 49, 3) := by decide +kernel
theorem dX8_sentAway_45 : decode cX8_sentAway 45 = .ok (.aload_n 0, 1) := by decide +kernel
theorem dX8_sentAway_46 : decode cX8_sentAway 46 = .ok (.iload 5, 2) := by decide +kernel
theorem dX8_sentAway_48 : decode cX8_sentAway 48 = .ok (.putfield 19, 3) := by decide +kernel
theorem dX8_sentAway_51 : decode cX8_sentAway 51 = .ok (.aload_n 0, 1) := by decide +kernel
theorem dX8_sentAway_52 : decode cX8_sentAway 52 = .ok (.iload_n 1, 1) := by decide +kernel
theorem dX8_sentAway_53 : decode cX8_sentAway 53 = .ok (.invokevirtual 163, 3) := by decide +kernel
theorem dX8_sentAway_56 : decode cX8_sentAway 56 = .ok (.aload_n 0, 1) := by decide +kernel
theorem dX8_sentAway_57 : decode cX8_sentAway 57 = .ok (.iconst 4, 1) := by decide +kernel
theorem dX8_sentAway_58 : decode cX8_sentAway 58 = .ok (.invokevirtual 160, 3) := by decide +kernel
theorem dX8_sentAway_61 : decode cX8_sentAway 61 = .ok (.istore 6, 2) := by decide +kernel
theorem dX8_sentAway_63 : decode cX8_sentAway 63 = .ok (.aload_n 0, 1) := by decide +kernel
theorem dX8_sentAway_64 : decode cX8_sentAway 64 = .ok (.invokevirtual 179, 3) := by decide +kernel
theorem dX8_sentAway_67 : decode cX8_sentAway 67 = .ok (.iload_n 3, 1) := by decide +kernel
theorem dX8_sentAway_68 : decode cX8_sentAway 68 = .ok (.ifCond .lt 10, 3) := by decide +kernel
theorem dX8_sentAway_71 : decode cX8_sentAway 71 = .ok (.iload 6, 2) := by decide +kernel
theorem dX8_sentAway_73 : decode cX8_sentAway 73 = .ok (.iload 4, 2) := by decide +kernel
theorem dX8_sentAway_75 : decode cX8_sentAway 75 = .ok (.if_icmp .le 10, 3) := by decide +kernel
theorem dX8_sentAway_78 : decode cX8_sentAway 78 = .ok (.iload 5, 2) := by decide +kernel
theorem dX8_sentAway_80 : decode cX8_sentAway 80 = .ok (.istore_n 3, 1) := by decide +kernel
theorem dX8_sentAway_81 : decode cX8_sentAway 81 = .ok (.iload 6, 2) := by decide +kernel
theorem dX8_sentAway_83 : decode cX8_sentAway 83 = .ok (.istore 4, 2) := by decide +kernel
theorem dX8_sentAway_85 : decode cX8_sentAway 85 = .ok (.iinc 5 1, 3) := by decide +kernel
theorem dX8_sentAway_88 : decode cX8_sentAway 88 = .ok (.goto (-54), 3) := by decide +kernel
theorem dX8_sentAway_91 : decode cX8_sentAway 91 = .ok (.iload_n 3, 1) := by decide +kernel
theorem dX8_sentAway_92 : decode cX8_sentAway 92 = .ok (.ifCond .ge 8, 3) := by decide +kernel
theorem dX8_sentAway_95 : decode cX8_sentAway 95 = .ok (.ldc 79, 2) := by decide +kernel
theorem dX8_sentAway_97 : decode cX8_sentAway 97 = .ok (.goto 13, 3) := by decide +kernel
theorem dX8_sentAway_100 : decode cX8_sentAway 100 = .ok (.iload_n 2, 1) := by decide +kernel
theorem dX8_sentAway_101 : decode cX8_sentAway 101 = .ok (.ifCond .ne 7, 3) := by decide +kernel
theorem dX8_sentAway_104 : decode cX8_sentAway 104 = .ok (.iload_n 3, 1) := by decide +kernel
theorem dX8_sentAway_105 : decode cX8_sentAway 105 = .ok (.goto 5, 3) := by decide +kernel
theorem dX8_sentAway_108 : decode cX8_sentAway 108 = .ok (.iload 4, 2) := by decide +kernel
theorem dX8_sentAway_110 : decode cX8_sentAway 110 = .ok (.ireturn, 1) := by decide +kernel
theorem dX8_dry_0 : decode cX8_dry 0 = .ok (.iload_n 1, 1) := by decide +kernel
theorem dX8_dry_1 : decode cX8_dry 1 = .ok (.iconst 1, 1) := by decide +kernel
theorem dX8_dry_2 : decode cX8_dry 2 = .ok (.bipush 60, 2) := by decide +kernel
theorem dX8_dry_4 : decode cX8_dry 4 = .ok (.invokestatic 80, 3) := by decide +kernel
theorem dX8_dry_7 : decode cX8_dry 7 = .ok (.ifCond .ne 6, 3) := by decide +kernel
theorem dX8_dry_10 : decode cX8_dry 10 = .ok (.ldc 92, 2) := by decide +kernel
theorem dX8_dry_12 : decode cX8_dry 12 = .ok (.ireturn, 1) := by decide +kernel
theorem dX8_dry_13 : decode cX8_dry 13 = .ok (.aload_n 0, 1) := by decide +kernel
theorem dX8_dry_14 : decode cX8_dry 14 = .ok (.invokevirtual 173, 3) := by decide +kernel
theorem dX8_dry_17 : decode cX8_dry 17 = .ok (.aload_n 0, 1) := by decide +kernel
theorem dX8_dry_18 : decode cX8_dry 18 = .ok (.iload_n 1, 1) := by decide +kernel
theorem dX8_dry_19 : decode cX8_dry 19 = .ok (.invokevirtual 163, 3) := by decide +kernel
theorem dX8_dry_22 : decode cX8_dry 22 = .ok (.aload_n 0, 1) := by decide +kernel
theorem dX8_dry_23 : decode cX8_dry 23 = .ok (.iconst 4, 1) := by decide +kernel
theorem dX8_dry_24 : decode cX8_dry 24 = .ok (.invokevirtual 160, 3) := by decide +kernel
theorem dX8_dry_27 : decode cX8_dry 27 = .ok (.istore_n 2, 1) := by decide +kernel
theorem dX8_dry_28 : decode cX8_dry 28 = .ok (.aload_n 0, 1) := by decide +kernel
theorem dX8_dry_29 : decode cX8_dry 29 = .ok (.invokevirtual 179, 3) := by decide +kernel
theorem dX8_dry_32 : decode cX8_dry 32 = .ok (.aload_n 0, 1) := by decide +kernel
theorem dX8_dry_33 : decode cX8_dry 33 = .ok (.getfield 9, 3) := by decide +kernel
theorem dX8_dry_36 : decode cX8_dry 36 = .ok (.iconst 5, 1) := by decide +kernel
theorem dX8_dry_37 : decode cX8_dry 37 = .ok (.iconst 0, 1) := by decide +kernel
theorem dX8_dry_38 : decode cX8_dry 38 = .ok (.iastore, 1) := by decide +kernel
theorem dX8_dry_39 : decode cX8_dry 39 = .ok (.aload_n 0, 1) := by decide +kernel
theorem dX8_dry_40 : decode cX8_dry 40 = .ok (.getfield 9, 3) := by decide +kernel
theorem dX8_dry_43 : decode cX8_dry 43 = .ok (.iconst 4, 1) := by decide +kernel
theorem dX8_dry_44 : decode cX8_dry 44 = .ok (.iconst 0, 1) := by decide +kernel
theorem dX8_dry_45 : decode cX8_dry 45 = .ok (.iastore, 1) := by decide +kernel
theorem dX8_dry_46 : decode cX8_dry 46 = .ok (.aload_n 0, 1) := by decide +kernel
theorem dX8_dry_47 : decode cX8_dry 47 = .ok (.iload_n 1, 1) := by decide +kernel
theorem dX8_dry_48 : decode cX8_dry 48 = .ok (.invokevirtual 163, 3) := by decide +kernel
theorem dX8_dry_51 : decode cX8_dry 51 = .ok (.aload_n 0, 1) := by decide +kernel
theorem dX8_dry_52 : decode cX8_dry 52 = .ok (.iconst 4, 1) := by decide +kernel
theorem dX8_dry_53 : decode cX8_dry 53 = .ok (.invokevirtual 160, 3) := by decide +kernel
theorem dX8_dry_56 : decode cX8_dry 56 = .ok (.istore_n 3, 1) := by decide +kernel
theorem dX8_dry_57 : decode cX8_dry 57 = .ok (.aload_n 0, 1) := by decide +kernel
theorem dX8_dry_58 : decode cX8_dry 58 = .ok (.invokevirtual 179, 3) := by decide +kernel
theorem dX8_dry_61 : decode cX8_dry 61 = .ok (.iload_n 3, 1) := by decide +kernel
theorem dX8_dry_62 : decode cX8_dry 62 = .ok (.iload_n 2, 1) := by decide +kernel
theorem dX8_dry_63 : decode cX8_dry 63 = .ok (.isub, 1) := by decide +kernel
theorem dX8_dry_64 : decode cX8_dry 64 = .ok (.ireturn, 1) := by decide +kernel
theorem dX8_offBy_0 : decode cX8_offBy 0 = .ok (.lconst 0, 1) := by decide +kernel
theorem dX8_offBy_1 : decode cX8_offBy 1 = .ok (.lstore_n 3, 1) := by decide +kernel
theorem dX8_offBy_2 : decode cX8_offBy 2 = .ok (.iconst 0, 1) := by decide +kernel
theorem dX8_offBy_3 : decode cX8_offBy 3 = .ok (.istore 5, 2) := by decide +kernel
theorem dX8_offBy_5 : decode cX8_offBy 5 = .ok (.iload 5, 2) := by decide +kernel
theorem dX8_offBy_7 : decode cX8_offBy 7 = .ok (.aload_n 0, 1) := by decide +kernel
theorem dX8_offBy_8 : decode cX8_offBy 8 = .ok (.getfield 55, 3) := by decide +kernel
theorem dX8_offBy_11 : decode cX8_offBy 11 = .ok (.iload_n 1, 1) := by decide +kernel
theorem dX8_offBy_12 : decode cX8_offBy 12 = .ok (.iaload, 1) := by decide +kernel
theorem dX8_offBy_13 : decode cX8_offBy 13 = .ok (.if_icmp .ge 67, 3) := by decide +kernel
theorem dX8_offBy_16 : decode cX8_offBy 16 = .ok (.aload_n 0, 1) := by decide +kernel
theorem dX8_offBy_17 : decode cX8_offBy 17 = .ok (.getfield 58, 3) := by decide +kernel
theorem dX8_offBy_20 : decode cX8_offBy 20 = .ok (.bipush 24, 2) := by decide +kernel
theorem dX8_offBy_22 : decode cX8_offBy 22 = .ok (.iload_n 1, 1) := by decide +kernel
theorem dX8_offBy_23 : decode cX8_offBy 23 = .ok (.imul, 1) := by decide +kernel
theorem dX8_offBy_24 : decode cX8_offBy 24 = .ok (.iload 5, 2) := by decide +kernel
theorem dX8_offBy_26 : decode cX8_offBy 26 = .ok (.iadd, 1) := by decide +kernel
theorem dX8_offBy_27 : decode cX8_offBy 27 = .ok (.iaload, 1) := by decide +kernel
theorem dX8_offBy_28 : decode cX8_offBy 28 = .ok (.istore 6, 2) := by decide +kernel
theorem dX8_offBy_30 : decode cX8_offBy 30 = .ok (.iload 6, 2) := by decide +kernel
theorem dX8_offBy_32 : decode cX8_offBy 32 = .ok (.i2l, 1) := by decide +kernel
theorem dX8_offBy_33 : decode cX8_offBy 33 = .ok (.aload_n 0, 1) := by decide +kernel
theorem dX8_offBy_34 : decode cX8_offBy 34 = .ok (.iload_n 2, 1) := by decide +kernel
theorem dX8_offBy_35 : decode cX8_offBy 35 = .ok (.iload 5, 2) := by decide +kernel
theorem dX8_offBy_37 : decode cX8_offBy 37 = .ok (.iconst 0, 1) := by decide +kernel
theorem dX8_offBy_38 : decode cX8_offBy 38 = .ok (.invokevirtual 129, 3) := by decide +kernel
theorem dX8_offBy_41 : decode cX8_offBy 41 = .ok (.i2l, 1) := by decide +kernel
theorem dX8_offBy_42 : decode cX8_offBy 42 = .ok (.lsub, 1) := by decide +kernel
theorem dX8_offBy_43 : decode cX8_offBy 43 = .ok (.lstore 7, 2) := by decide +kernel
theorem dX8_offBy_45 : decode cX8_offBy 45 = .ok (.lload_n 3, 1) := by decide +kernel
theorem dX8_offBy_46 : decode cX8_offBy 46 = .ok (.iload 6, 2) := by decide +kernel
theorem dX8_offBy_48 : decode cX8_offBy 48 = .ok (.ldc 79, 2) := by decide +kernel
theorem dX8_offBy_50 : decode cX8_offBy 50 = .ok (.if_icmp .ne 7, 3) := by decide +kernel
theorem dX8_offBy_53 : decode cX8_offBy 53 = .ok (.lconst 0, 1) := by decide +kernel
theorem dX8_offBy_54 : decode cX8_offBy 54 = .ok (.goto 18, 3) := by decide +kernel
theorem dX8_offBy_57 : decode cX8_offBy 57 = .ok (.lload 7, 2) := by decide +kernel
theorem dX8_offBy_59 : decode cX8_offBy 59 = .ok (.lconst 0, 1) := by decide +kernel
theorem dX8_offBy_60 : decode cX8_offBy 60 = .ok (.lcmp, 1) := by decide +kernel
theorem dX8_offBy_61 : decode cX8_offBy 61 = .ok (.ifCond .ge 9, 3) := by decide +kernel
theorem dX8_offBy_64 : decode cX8_offBy 64 = .ok (.lload 7, 2) := by decide +kernel
theorem dX8_offBy_66 : decode cX8_offBy 66 = .ok (.lneg, 1) := by decide +kernel
theorem dX8_offBy_67 : decode cX8_offBy 67 = .ok (.goto 5, 3) := by decide +kernel
theorem dX8_offBy_70 : decode cX8_offBy 70 = .ok (.lload 7, 2) := by decide +kernel
theorem dX8_offBy_72 : decode cX8_offBy 72 = .ok (.ladd, 1) := by decide +kernel
theorem dX8_offBy_73 : decode cX8_offBy 73 = .ok (.lstore_n 3, 1) := by decide +kernel
theorem dX8_offBy_74 : decode cX8_offBy 74 = .ok (.iinc 5 1, 3) := by decide +kernel
theorem dX8_offBy_77 : decode cX8_offBy 77 = .ok (.goto (-72), 3) := by decide +kernel
theorem dX8_offBy_80 : decode cX8_offBy 80 = .ok (.lload_n 3, 1) := by decide +kernel
theorem dX8_offBy_81 : decode cX8_offBy 81 = .ok (.lreturn, 1) := by decide +kernel
theorem dX8_shone_0 : decode cX8_shone 0 = .ok (.iload_n 1, 1) := by decide +kernel
theorem dX8_shone_1 : decode cX8_shone 1 = .ok (.invokestatic 182, 3) := by decide +kernel
theorem dX8_shone_4 : decode cX8_shone 4 = .ok (.ifCond .eq 12, 3) := by decide +kernel
theorem dX8_shone_7 : decode cX8_shone 7 = .ok (.iload_n 2, 1) := by decide +kernel
theorem dX8_shone_8 : decode cX8_shone 8 = .ok (.iconst 0, 1) := by decide +kernel
theorem dX8_shone_9 : decode cX8_shone 9 = .ok (.iconst 1, 1) := by decide +kernel
theorem dX8_shone_10 : decode cX8_shone 10 = .ok (.invokestatic 80, 3) := by decide +kernel
theorem dX8_shone_13 : decode cX8_shone 13 = .ok (.ifCond .ne 6, 3) := by decide +kernel
theorem dX8_shone_16 : decode cX8_shone 16 = .ok (.ldc 92, 2) := by decide +kernel
theorem dX8_shone_18 : decode cX8_shone 18 = .ok (.ireturn, 1) := by decide +kernel
theorem dX8_shone_19 : decode cX8_shone 19 = .ok (.aload_n 0, 1) := by decide +kernel
theorem dX8_shone_20 : decode cX8_shone 20 = .ok (.getfield 52, 3) := by decide +kernel
theorem dX8_shone_23 : decode cX8_shone 23 = .ok (.iload_n 1, 1) := by decide +kernel
theorem dX8_shone_24 : decode cX8_shone 24 = .ok (.iaload, 1) := by decide +kernel
theorem dX8_shone_25 : decode cX8_shone 25 = .ok (.ifCond .ge 6, 3) := by decide +kernel
theorem dX8_shone_28 : decode cX8_shone 28 = .ok (.ldc 185, 2) := by decide +kernel
theorem dX8_shone_30 : decode cX8_shone 30 = .ok (.ireturn, 1) := by decide +kernel
theorem dX8_shone_31 : decode cX8_shone 31 = .ok (.iconst (-1), 1) := by decide +kernel
theorem dX8_shone_32 : decode cX8_shone 32 = .ok (.istore_n 3, 1) := by decide +kernel
theorem dX8_shone_33 : decode cX8_shone 33 = .ok (.lconst 0, 1) := by decide +kernel
theorem dX8_shone_34 : decode cX8_shone 34 = .ok (.lstore 4, 2) := by decide +kernel
theorem dX8_shone_36 : decode cX8_shone 36 = .ok (.iconst 0, 1) := by decide +kernel
theorem dX8_shone_37 : decode cX8_shone 37 = .ok (.istore 6, 2) := by decide +kernel
theorem dX8_shone_39 : decode cX8_shone 39 = .ok (.iload 6, 2) := by decide +kernel
theorem dX8_shone_41 : decode cX8_shone 41 = .ok (.aload_n 0, 1) := by decide +kernel
theorem dX8_shone_42 : decode cX8_shone 42 = .ok (.getfield 9, 3) := by decide +kernel
theorem dX8_shone_45 : decode cX8_shone 45 = .ok (.iconst 1, 1) := by decide +kernel
theorem dX8_shone_46 : decode cX8_shone 46 = .ok (.iaload, 1) := by decide +kernel
theorem dX8_shone_47 : decode cX8_shone 47 = .ok (.if_icmp .ge 37, 3) := by decide +kernel
theorem dX8_shone_50 : decode cX8_shone 50 = .ok (.aload_n 0, 1) := by decide +kernel
theorem dX8_shone_51 : decode cX8_shone 51 = .ok (.iload_n 1, 1) := by decide +kernel
theorem dX8_shone_52 : decode cX8_shone 52 = .ok (.iload 6, 2) := by decide +kernel
theorem dX8_shone_54 : decode cX8_shone 54 = .ok (.invokevirtual 186, 3) := by decide +kernel
theorem dX8_shone_57 : decode cX8_shone 57 = .ok (.lstore 7, 2) := by decide +kernel
theorem dX8_shone_59 : decode cX8_shone 59 = .ok (.iload_n 3, 1) := by decide +kernel
theorem dX8_shone_60 : decode cX8_shone 60 = .ok (.ifCond .lt 11, 3) := by decide +kernel
theorem dX8_shone_63 : decode cX8_shone 63 = .ok (.lload 7, 2) := by decide +kernel
theorem dX8_shone_65 : decode cX8_shone 65 = .ok (.lload 4, 2) := by decide +kernel
theorem dX8_shone_67 : decode cX8_shone 67 = .ok (.lcmp, 1) := by decide +kernel
theorem dX8_shone_68 : decode cX8_shone 68 = .ok (.ifCond .ge 10, 3) := by decide +kernel
theorem dX8_shone_71 : decode cX8_shone 71 = .ok (.iload 6, 2) := by decide +kernel
theorem dX8_shone_73 : decode cX8_shone 73 = .ok (.istore_n 3, 1) := by decide +kernel
theorem dX8_shone_74 : decode cX8_shone 74 = .ok (.lload 7, 2) := by decide +kernel
theorem dX8_shone_76 : decode cX8_shone 76 = .ok (.lstore 4, 2) := by decide +kernel
theorem dX8_shone_78 : decode cX8_shone 78 = .ok (.iinc 6 1, 3) := by decide +kernel
theorem dX8_shone_81 : decode cX8_shone 81 = .ok (.goto (-42), 3) := by decide +kernel
theorem dX8_shone_84 : decode cX8_shone 84 = .ok (.iload_n 3, 1) := by decide +kernel
theorem dX8_shone_85 : decode cX8_shone 85 = .ok (.ifCond .ge 8, 3) := by decide +kernel
theorem dX8_shone_88 : decode cX8_shone 88 = .ok (.ldc 79, 2) := by decide +kernel
theorem dX8_shone_90 : decode cX8_shone 90 = .ok (.goto 14, 3) := by decide +kernel
theorem dX8_shone_93 : decode cX8_shone 93 = .ok (.iload_n 2, 1) := by decide +kernel
theorem dX8_shone_94 : decode cX8_shone 94 = .ok (.ifCond .ne 7, 3) := by decide +kernel
theorem dX8_shone_97 : decode cX8_shone 97 = .ok (.iload_n 3, 1) := by decide +kernel
theorem dX8_shone_98 : decode cX8_shone 98 = .ok (.goto 6, 3) := by decide +kernel
theorem dX8_shone_101 : decode cX8_shone 101 = .ok (.lload 4, 2) := by decide +kernel
theorem dX8_shone_103 : decode cX8_shone 103 = .ok (.l2i, 1) := by decide +kernel
theorem dX8_shone_104 : decode cX8_shone 104 = .ok (.ireturn, 1) := by decide +kernel
theorem dX8_fee_0 : decode cX8_fee 0 = .ok (.aload_n 0, 1) := by decide +kernel
theorem dX8_fee_1 : decode cX8_fee 1 = .ok (.iconst 1, 1) := by decide +kernel
theorem dX8_fee_2 : decode cX8_fee 2 = .ok (.invokevirtual 98, 3) := by decide +kernel
theorem dX8_fee_5 : decode cX8_fee 5 = .ok (.istore_n 1, 1) := by decide +kernel
theorem dX8_fee_6 : decode cX8_fee 6 = .ok (.aload_n 0, 1) := by decide +kernel
theorem dX8_fee_7 : decode cX8_fee 7 = .ok (.getfield 49, 3) := by decide +kernel
theorem dX8_fee_10 : decode cX8_fee 10 = .ok (.iconst 0, 1) := by decide +kernel
theorem dX8_fee_11 : decode cX8_fee 11 = .ok (.aload_n 0, 1) := by decide +kernel
theorem dX8_fee_12 : decode cX8_fee 12 = .ok (.getfield 9, 3) := by decide +kernel
theorem dX8_fee_15 : decode cX8_fee 15 = .ok (.bipush 7, 2) := by decide +kernel
theorem dX8_fee_17 : decode cX8_fee 17 = .ok (.iaload, 1) := by decide +kernel
theorem dX8_fee_18 : decode cX8_fee 18 = .ok (.iastore, 1) := by decide +kernel
theorem dX8_fee_19 : decode cX8_fee 19 = .ok (.aload_n 0, 1) := by decide +kernel
theorem dX8_fee_20 : decode cX8_fee 20 = .ok (.getfield 49, 3) := by decide +kernel
theorem dX8_fee_23 : decode cX8_fee 23 = .ok (.iconst 1, 1) := by decide +kernel
theorem dX8_fee_24 : decode cX8_fee 24 = .ok (.aload_n 0, 1) := by decide +kernel
theorem dX8_fee_25 : decode cX8_fee 25 = .ok (.getfield 9, 3) := by decide +kernel
theorem dX8_fee_28 : decode cX8_fee 28 = .ok (.bipush 6, 2) := by decide +kernel
theorem dX8_fee_30 : decode cX8_fee 30 = .ok (.iaload, 1) := by decide +kernel
theorem dX8_fee_31 : decode cX8_fee 31 = .ok (.iastore, 1) := by decide +kernel
theorem dX8_fee_32 : decode cX8_fee 32 = .ok (.iload_n 1, 1) := by decide +kernel
theorem dX8_fee_33 : decode cX8_fee 33 = .ok (.ifCond .ge 13, 3) := by decide +kernel
theorem dX8_fee_36 : decode cX8_fee 36 = .ok (.aload_n 0, 1) := by decide +kernel
theorem dX8_fee_37 : decode cX8_fee 37 = .ok (.getfield 9, 3) := by decide +kernel
theorem dX8_fee_40 : decode cX8_fee 40 = .ok (.bipush 7, 2) := by decide +kernel
theorem dX8_fee_42 : decode cX8_fee 42 = .ok (.iaload, 1) := by decide +kernel
theorem dX8_fee_43 : decode cX8_fee 43 = .ok (.goto 8, 3) := by decide +kernel
theorem dX8_fee_46 : decode cX8_fee 46 = .ok (.aload_n 0, 1) := by decide +kernel
theorem dX8_fee_47 : decode cX8_fee 47 = .ok (.iload_n 1, 1) := by decide +kernel
theorem dX8_fee_48 : decode cX8_fee 48 = .ok (.invokevirtual 106, 3) := by decide +kernel
theorem dX8_fee_51 : decode cX8_fee 51 = .ok (.ireturn, 1) := by decide +kernel
theorem dX8_fine_0 : decode cX8_fine 0 = .ok (.aload_n 0, 1) := by decide +kernel
theorem dX8_fine_1 : decode cX8_fine 1 = .ok (.iload_n 1, 1) := by decide +kernel
theorem dX8_fine_2 : decode cX8_fine 2 = .ok (.invokevirtual 116, 3) := by decide +kernel
theorem dX8_fine_5 : decode cX8_fine 5 = .ok (.ifCond .ne 6, 3) := by decide +kernel
theorem dX8_fine_8 : decode cX8_fine 8 = .ok (.ldc 92, 2) := by decide +kernel
theorem dX8_fine_10 : decode cX8_fine 10 = .ok (.ireturn, 1) := by decide +kernel
theorem dX8_fine_11 : decode cX8_fine 11 = .ok (.aload_n 0, 1) := by decide +kernel
theorem dX8_fine_12 : decode cX8_fine 12 = .ok (.iconst 2, 1) := by decide +kernel
theorem dX8_fine_13 : decode cX8_fine 13 = .ok (.invokevirtual 98, 3) := by decide +kernel
theorem dX8_fine_16 : decode cX8_fine 16 = .ok (.istore_n 2, 1) := by decide +kernel
theorem dX8_fine_17 : decode cX8_fine 17 = .ok (.aload_n 0, 1) := by decide +kernel
theorem dX8_fine_18 : decode cX8_fine 18 = .ok (.getfield 49, 3) := by decide +kernel
theorem dX8_fine_21 : decode cX8_fine 21 = .ok (.iconst 0, 1) := by decide +kernel
theorem dX8_fine_22 : decode cX8_fine 22 = .ok (.aload_n 0, 1) := by decide +kernel
theorem dX8_fine_23 : decode cX8_fine 23 = .ok (.iload_n 1, 1) := by decide +kernel
theorem dX8_fine_24 : decode cX8_fine 24 = .ok (.iconst 4, 1) := by decide +kernel
theorem dX8_fine_25 : decode cX8_fine 25 = .ok (.invokevirtual 102, 3) := by decide +kernel
theorem dX8_fine_28 : decode cX8_fine 28 = .ok (.iastore, 1) := by decide +kernel
theorem dX8_fine_29 : decode cX8_fine 29 = .ok (.aload_n 0, 1) := by decide +kernel
theorem dX8_fine_30 : decode cX8_fine 30 = .ok (.getfield 49, 3) := by decide +kernel
theorem dX8_fine_33 : decode cX8_fine 33 = .ok (.iconst 1, 1) := by decide +kernel
theorem dX8_fine_34 : decode cX8_fine 34 = .ok (.aload_n 0, 1) := by decide +kernel
theorem dX8_fine_35 : decode cX8_fine 35 = .ok (.iload_n 1, 1) := by decide +kernel
theorem dX8_fine_36 : decode cX8_fine 36 = .ok (.bipush 6, 2) := by decide +kernel
theorem dX8_fine_38 : decode cX8_fine 38 = .ok (.invokevirtual 102, 3) := by decide +kernel
theorem dX8_fine_41 : decode cX8_fine 41 = .ok (.iastore, 1) := by decide +kernel
theorem dX8_fine_42 : decode cX8_fine 42 = .ok (.iload_n 2, 1) := by decide +kernel
theorem dX8_fine_43 : decode cX8_fine 43 = .ok (.ifCond .ge 12, 3) := by decide +kernel
theorem dX8_fine_46 : decode cX8_fine 46 = .ok (.aload_n 0, 1) := by decide +kernel
theorem dX8_fine_47 : decode cX8_fine 47 = .ok (.iload_n 1, 1) := by decide +kernel
theorem dX8_fine_48 : decode cX8_fine 48 = .ok (.iconst 4, 1) := by decide +kernel
theorem dX8_fine_49 : decode cX8_fine 49 = .ok (.invokevirtual 102, 3) := by decide +kernel
theorem dX8_fine_52 : decode cX8_fine 52 = .ok (.goto 8, 3) := by decide +kernel
theorem dX8_fine_55 : decode cX8_fine 55 = .ok (.aload_n 0, 1) := by decide +kernel
theorem dX8_fine_56 : decode cX8_fine 56 = .ok (.iload_n 2, 1) := by decide +kernel
theorem dX8_fine_57 : decode cX8_fine 57 = .ok (.invokevirtual 106, 3) := by decide +kernel
theorem dX8_fine_60 : decode cX8_fine 60 = .ok (.ireturn, 1) := by decide +kernel
theorem dX8_feed_0 : decode cX8_feed 0 = .ok (.aload_n 0, 1) := by decide +kernel
theorem dX8_feed_1 : decode cX8_feed 1 = .ok (.getfield 190, 3) := by decide +kernel
theorem dX8_feed_4 : decode cX8_feed 4 = .ok (.bipush 12, 2) := by decide +kernel
theorem dX8_feed_6 : decode cX8_feed 6 = .ok (.iadd, 1) := by decide +kernel
theorem dX8_feed_7 : decode cX8_feed 7 = .ok (.bipush 96, 2) := by decide +kernel
theorem dX8_feed_9 : decode cX8_feed 9 = .ok (.if_icmp .le 6, 3) := by decide +kernel
theorem dX8_feed_12 : decode cX8_feed 12 = .ok (.ldc 93, 2) := by decide +kernel
theorem dX8_feed_14 : decode cX8_feed 14 = .ok (.ireturn, 1) := by decide +kernel
theorem dX8_feed_15 : decode cX8_feed 15 = .ok (.iconst 0, 1) := by decide +kernel
theorem dX8_feed_16 : decode cX8_feed 16 = .ok (.istore 4, 2) := by decide +kernel
theorem dX8_feed_18 : decode cX8_feed 18 = .ok (.iload 4, 2) := by decide +kernel
theorem dX8_feed_20 : decode cX8_feed 20 = .ok (.bipush 12, 2) := by decide +kernel
theorem dX8_feed_22 : decode cX8_feed 22 = .ok (.if_icmp .ge 62, 3) := by decide +kernel
theorem dX8_feed_25 : decode cX8_feed 25 = .ok (.iload 4, 2) := by decide +kernel
theorem dX8_feed_27 : decode cX8_feed 27 = .ok (.iconst 4, 1) := by decide +kernel
theorem dX8_feed_28 : decode cX8_feed 28 = .ok (.if_icmp .ge 7, 3) := by decide +kernel
theorem dX8_feed_31 : decode cX8_feed 31 = .ok (.iload_n 1, 1) := by decide +kernel
theorem dX8_feed_32 : decode cX8_feed 32 = .ok (.goto 15, 3) := by decide +kernel
theorem dX8_feed_35 : decode cX8_feed 35 = .ok (.iload 4, 2) := by decide +kernel
theorem dX8_feed_37 : decode cX8_feed 37 = .ok (.bipush 8, 2) := by decide +kernel
theorem dX8_feed_39 : decode cX8_feed 39 = .ok (.if_icmp .ge 7, 3) := by decide +kernel
theorem dX8_feed_42 : decode cX8_feed 42 = .ok (.iload_n 2, 1) := by decide +kernel
theorem dX8_feed_43 : decode cX8_feed 43 = .ok (.goto 4, 3) := by decide +kernel
theorem dX8_feed_46 : decode cX8_feed 46 = .ok (.iload_n 3, 1) := by decide +kernel
theorem dX8_feed_47 : decode cX8_feed 47 = .ok (.istore 5, 2) := by decide +kernel
theorem dX8_feed_49 : decode cX8_feed 49 = .ok (.aload_n 0, 1) := by decide +kernel
theorem dX8_feed_50 : decode cX8_feed 50 = .ok (.getfield 26, 3) := by decide +kernel
theorem dX8_feed_53 : decode cX8_feed 53 = .ok (.aload_n 0, 1) := by decide +kernel
theorem dX8_feed_54 : decode cX8_feed 54 = .ok (.getfield 190, 3) := by decide +kernel
theorem dX8_feed_57 : decode cX8_feed 57 = .ok (.iload 4, 2) := by decide +kernel
theorem dX8_feed_59 : decode cX8_feed 59 = .ok (.iadd, 1) := by decide +kernel
theorem dX8_feed_60 : decode cX8_feed 60 = .ok (.iload 5, 2) := by decide +kernel
theorem dX8_feed_62 : decode cX8_feed 62 = .ok (.bipush 24, 2) := by decide +kernel
theorem dX8_feed_64 : decode cX8_feed 64 = .ok (.bipush 8, 2) := by decide +kernel
theorem dX8_feed_66 : decode cX8_feed 66 = .ok (.iload 4, 2) := by decide +kernel
theorem dX8_feed_68 : decode cX8_feed 68 = .ok (.iconst 4, 1) := by decide +kernel
theorem dX8_feed_69 : decode cX8_feed 69 = .ok (.irem, 1) := by decide +kernel
theorem dX8_feed_70 : decode cX8_feed 70 = .ok (.imul, 1) := by decide +kernel
theorem dX8_feed_71 : decode cX8_feed 71 = .ok (.isub, 1) := by decide +kernel
theorem dX8_feed_72 : decode cX8_feed 72 = .ok (.ishr, 1) := by decide +kernel
theorem dX8_feed_73 : decode cX8_feed 73 = .ok (.sipush 255, 3) := by decide +kernel
theorem dX8_feed_76 : decode cX8_feed 76 = .ok (.iand, 1) := by decide +kernel
theorem dX8_feed_77 : decode cX8_feed 77 = .ok (.iastore, 1) := by decide +kernel
theorem dX8_feed_78 : decode cX8_feed 78 = .ok (.iinc 4 1, 3) := by decide +kernel
theorem dX8_feed_81 : decode cX8_feed 81 = .ok (.goto (-63), 3) := by decide +kernel
theorem dX8_feed_84 : decode cX8_feed 84 = .ok (.aload_n 0, 1) := by decide +kernel
theorem dX8_feed_85 : decode cX8_feed 85 = .ok (.dup, 1) := by decide +kernel
theorem dX8_feed_86 : decode cX8_feed 86 = .ok (.getfield 190, 3) := by decide +kernel
theorem dX8_feed_89 : decode cX8_feed 89 = .ok (.bipush 12, 2) := by decide +kernel
theorem dX8_feed_91 : decode cX8_feed 91 = .ok (.iadd, 1) := by decide +kernel
theorem dX8_feed_92 : decode cX8_feed 92 = .ok (.putfield 190, 3) := by decide +kernel
theorem dX8_feed_95 : decode cX8_feed 95 = .ok (.aload_n 0, 1) := by decide +kernel
theorem dX8_feed_96 : decode cX8_feed 96 = .ok (.getfield 190, 3) := by decide +kernel
theorem dX8_feed_99 : decode cX8_feed 99 = .ok (.ireturn, 1) := by decide +kernel
theorem dX8_trim_0 : decode cX8_trim 0 = .ok (.iload_n 1, 1) := by decide +kernel
theorem dX8_trim_1 : decode cX8_trim 1 = .ok (.iconst 0, 1) := by decide +kernel
theorem dX8_trim_2 : decode cX8_trim 2 = .ok (.aload_n 0, 1) := by decide +kernel
theorem dX8_trim_3 : decode cX8_trim 3 = .ok (.getfield 190, 3) := by decide +kernel
theorem dX8_trim_6 : decode cX8_trim 6 = .ok (.invokestatic 80, 3) := by decide +kernel
theorem dX8_trim_9 : decode cX8_trim 9 = .ok (.ifCond .ne 6, 3) := by decide +kernel
theorem dX8_trim_12 : decode cX8_trim 12 = .ok (.ldc 92, 2) := by decide +kernel
theorem dX8_trim_14 : decode cX8_trim 14 = .ok (.ireturn, 1) := by decide +kernel
theorem dX8_trim_15 : decode cX8_trim 15 = .ok (.aload_n 0, 1) := by decide +kernel
theorem dX8_trim_16 : decode cX8_trim 16 = .ok (.iload_n 1, 1) := by decide +kernel
theorem dX8_trim_17 : decode cX8_trim 17 = .ok (.putfield 190, 3) := by decide +kernel
theorem dX8_trim_20 : decode cX8_trim 20 = .ok (.iload_n 1, 1) := by decide +kernel
theorem dX8_trim_21 : decode cX8_trim 21 = .ok (.ireturn, 1) := by decide +kernel
theorem dX8_isLetter_0 : decode cX8_isLetter 0 = .ok (.iload_n 1, 1) := by decide +kernel
theorem dX8_isLetter_1 : decode cX8_isLetter 1 = .ok (.aload_n 0, 1) := by decide +kernel
theorem dX8_isLetter_2 : decode cX8_isLetter 2 = .ok (.getfield 190, 3) := by decide +kernel
theorem dX8_isLetter_5 : decode cX8_isLetter 5 = .ok (.if_icmp .ge 29, 3) := by decide +kernel
theorem dX8_isLetter_8 : decode cX8_isLetter 8 = .ok (.aload_n 0, 1) := by decide +kernel
theorem dX8_isLetter_9 : decode cX8_isLetter 9 = .ok (.getfield 26, 3) := by decide +kernel
theorem dX8_isLetter_12 : decode cX8_isLetter 12 = .ok (.iload_n 1, 1) := by decide +kernel
theorem dX8_isLetter_13 : decode cX8_isLetter 13 = .ok (.iaload, 1) := by decide +kernel
theorem dX8_isLetter_14 : decode cX8_isLetter 14 = .ok (.bipush 97, 2) := by decide +kernel
theorem dX8_isLetter_16 : decode cX8_isLetter 16 = .ok (.if_icmp .lt 18, 3) := by decide +kernel
theorem dX8_isLetter_19 : decode cX8_isLetter 19 = .ok (.aload_n 0, 1) := by decide +kernel
theorem dX8_isLetter_20 : decode cX8_isLetter 20 = .ok (.getfield 26, 3) := by decide +kernel
theorem dX8_isLetter_23 : decode cX8_isLetter 23 = .ok (.iload_n 1, 1) := by decide +kernel
theorem dX8_isLetter_24 : decode cX8_isLetter 24 = .ok (.iaload, 1) := by decide +kernel
theorem dX8_isLetter_25 : decode cX8_isLetter 25 = .ok (.bipush 122, 2) := by decide +kernel
theorem dX8_isLetter_27 : decode cX8_isLetter 27 = .ok (.if_icmp .gt 7, 3) := by decide +kernel
theorem dX8_isLetter_30 : decode cX8_isLetter 30 = .ok (.iconst 1, 1) := by decide +kernel
theorem dX8_isLetter_31 : decode cX8_isLetter 31 = .ok (.goto 4, 3) := by decide +kernel
theorem dX8_isLetter_34 : decode cX8_isLetter 34 = .ok (.iconst 0, 1) := by decide +kernel
theorem dX8_isLetter_35 : decode cX8_isLetter 35 = .ok (.ireturn, 1) := by decide +kernel
theorem dX8_isFigure_0 : decode cX8_isFigure 0 = .ok (.iload_n 1, 1) := by decide +kernel
theorem dX8_isFigure_1 : decode cX8_isFigure 1 = .ok (.aload_n 0, 1) := by decide +kernel
theorem dX8_isFigure_2 : decode cX8_isFigure 2 = .ok (.getfield 190, 3) := by decide +kernel
theorem dX8_isFigure_5 : decode cX8_isFigure 5 = .ok (.if_icmp .ge 29, 3) := by decide +kernel
theorem dX8_isFigure_8 : decode cX8_isFigure 8 = .ok (.aload_n 0, 1) := by decide +kernel
theorem dX8_isFigure_9 : decode cX8_isFigure 9 = .ok (.getfield 26, 3) := by decide +kernel
theorem dX8_isFigure_12 : decode cX8_isFigure 12 = .ok (.iload_n 1, 1) := by decide +kernel
theorem dX8_isFigure_13 : decode cX8_isFigure 13 = .ok (.iaload, 1) := by decide +kernel
theorem dX8_isFigure_14 : decode cX8_isFigure 14 = .ok (.bipush 48, 2) := by decide +kernel
theorem dX8_isFigure_16 : decode cX8_isFigure 16 = .ok (.if_icmp .lt 18, 3) := by decide +kernel
theorem dX8_isFigure_19 : decode cX8_isFigure 19 = .ok (.aload_n 0, 1) := by decide +kernel
theorem dX8_isFigure_20 : decode cX8_isFigure 20 = .ok (.getfield 26, 3) := by decide +kernel
theorem dX8_isFigure_23 : decode cX8_isFigure 23 = .ok (.iload_n 1, 1) := by decide +kernel
theorem dX8_isFigure_24 : decode cX8_isFigure 24 = .ok (.iaload, 1) := by decide +kernel
theorem dX8_isFigure_25 : decode cX8_isFigure 25 = .ok (.bipush 57, 2) := by decide +kernel
theorem dX8_isFigure_27 : decode cX8_isFigure 27 = .ok (.if_icmp .gt 7, 3) := by decide +kernel
theorem dX8_isFigure_30 : decode cX8_isFigure 30 = .ok (.iconst 1, 1) := by decide +kernel
theorem dX8_isFigure_31 : decode cX8_isFigure 31 = .ok (.goto 4, 3) := by decide +kernel
theorem dX8_isFigure_34 : decode cX8_isFigure 34 = .ok (.iconst 0, 1) := by decide +kernel
theorem dX8_isFigure_35 : decode cX8_isFigure 35 = .ok (.ireturn, 1) := by decide +kernel
theorem dX8_go_0 : decode cX8_go 0 = .ok (.aload_n 0, 1) := by decide +kernel
theorem dX8_go_1 : decode cX8_go 1 = .ok (.getfield 193, 3) := by decide +kernel
theorem dX8_go_4 : decode cX8_go 4 = .ok (.aload_n 0, 1) := by decide +kernel
theorem dX8_go_5 : decode cX8_go 5 = .ok (.getfield 190, 3) := by decide +kernel
theorem dX8_go_8 : decode cX8_go 8 = .ok (.if_icmp .ge 30, 3) := by decide +kernel
theorem dX8_go_11 : decode cX8_go 11 = .ok (.aload_n 0, 1) := by decide +kernel
theorem dX8_go_12 : decode cX8_go 12 = .ok (.getfield 26, 3) := by decide +kernel
theorem dX8_go_15 : decode cX8_go 15 = .ok (.aload_n 0, 1) := by decide +kernel
theorem dX8_go_16 : decode cX8_go 16 = .ok (.getfield 193, 3) := by decide +kernel
theorem dX8_go_19 : decode cX8_go 19 = .ok (.iaload, 1) := by decide +kernel
theorem dX8_go_20 : decode cX8_go 20 = .ok (.bipush 32, 2) := by decide +kernel
theorem dX8_go_22 : decode cX8_go 22 = .ok (.if_icmp .ne 16, 3) := by decide +kernel
theorem dX8_go_25 : decode cX8_go 25 = .ok (.aload_n 0, 1) := by decide +kernel
theorem dX8_go_26 : decode cX8_go 26 = .ok (.dup, 1) := by decide +kernel
theorem dX8_go_27 : decode cX8_go 27 = .ok (.getfield 193, 3) := by decide +kernel
theorem dX8_go_30 : decode cX8_go 30 = .ok (.iconst 1, 1) := by decide +kernel
theorem dX8_go_31 : decode cX8_go 31 = .ok (.iadd, 1) := by decide +kernel
theorem dX8_go_32 : decode cX8_go 32 = .ok (.putfield 193, 3) := by decide +kernel
theorem dX8_go_35 : decode cX8_go 35 = .ok (.goto (-35), 3) := by decide +kernel
theorem dX8_go_38 : decode cX8_go 38 = .ok (.aload_n 0, 1) := by decide +kernel
theorem dX8_go_39 : decode cX8_go 39 = .ok (.aload_n 0, 1) := by decide +kernel
theorem dX8_go_40 : decode cX8_go 40 = .ok (.getfield 193, 3) := by decide +kernel
theorem dX8_go_43 : decode cX8_go 43 = .ok (.putfield 196, 3) := by decide +kernel
theorem dX8_go_46 : decode cX8_go 46 = .ok (.aload_n 0, 1) := by decide +kernel
theorem dX8_go_47 : decode cX8_go 47 = .ok (.getfield 196, 3) := by decide +kernel
theorem dX8_go_50 : decode cX8_go 50 = .ok (.aload_n 0, 1) := by decide +kernel
theorem dX8_go_51 : decode cX8_go 51 = .ok (.getfield 199, 3) := by decide +kernel
theorem dX8_go_54 : decode cX8_go 54 = .ok (.if_icmp .ne 7, 3) := by decide +kernel
theorem dX8_go_57 : decode cX8_go 57 = .ok (.iconst 1, 1) := by decide +kernel
theorem dX8_go_58 : decode cX8_go 58 = .ok (.goto 4, 3) := by decide +kernel
theorem dX8_go_61 : decode cX8_go 61 = .ok (.iconst 0, 1) := by decide +kernel
theorem dX8_go_62 : decode cX8_go 62 = .ok (.istore_n 1, 1) := by decide +kernel
theorem dX8_go_63 : decode cX8_go 63 = .ok (.aload_n 0, 1) := by decide +kernel
theorem dX8_go_64 : decode cX8_go 64 = .ok (.getfield 196, 3) := by decide +kernel
theorem dX8_go_67 : decode cX8_go 67 = .ok (.aload_n 0, 1) := by decide +kernel
theorem dX8_go_68 : decode cX8_go 68 = .ok (.getfield 190, 3) := by decide +kernel
theorem dX8_go_71 : decode cX8_go 71 = .ok (.if_icmp .ne 11, 3) := by decide +kernel
theorem dX8_go_74 : decode cX8_go 74 = .ok (.aload_n 0, 1) := by decide +kernel
theorem dX8_go_75 : decode cX8_go 75 = .ok (.iconst 0, 1) := by decide +kernel
theorem dX8_go_76 : decode cX8_go 76 = .ok (.putfield 202, 3) := by decide +kernel
theorem dX8_go_79 : decode cX8_go 79 = .ok (.goto 224, 3) := by decide +kernel
theorem dX8_go_82 : decode cX8_go 82 = .ok (.aload_n 0, 1) := by decide +kernel
theorem dX8_go_83 : decode cX8_go 83 = .ok (.aload_n 0, 1) := by decide +kernel
theorem dX8_go_84 : decode cX8_go 84 = .ok (.getfield 196, 3) := by decide +kernel
theorem dX8_go_87 : decode cX8_go 87 = .ok (.invokevirtual 205, 3) := by decide +kernel
theorem dX8_go_90 : decode cX8_go 90 = .ok (.ifCond .eq 64, 3) := by decide +kernel
theorem dX8_go_93 : decode cX8_go 93 = .ok (.aload_n 0, 1) := by decide +kernel
theorem dX8_go_94 : decode cX8_go 94 = .ok (.aload_n 0, 1) := by decide +kernel
theorem dX8_go_95 : decode cX8_go 95 = .ok (.getfield 193, 3) := by decide +kernel
theorem dX8_go_98 : decode cX8_go 98 = .ok (.invokevirtual 205, 3) := by decide +kernel
theorem dX8_go_101 : decode cX8_go 101 = .ok (.ifCond .eq 16, 3) := by decide +kernel
theorem dX8_go_104 : decode cX8_go 104 = .ok (.aload_n 0, 1) := by decide +kernel
theorem dX8_go_105 : decode cX8_go 105 = .ok (.dup, 1) := by decide +kernel
theorem dX8_go_106 : decode cX8_go 106 = .ok (.getfield 193, 3) := by decide +kernel
theorem dX8_go_109 : decode cX8_go 109 = .ok (.iconst 1, 1) := by decide +kernel
theorem dX8_go_110 : decode cX8_go 110 = .ok (.iadd, 1) := by decide +kernel
theorem dX8_go_111 : decode cX8_go 111 = .ok (.putfield 193, 3) := by decide +kernel
theorem dX8_go_114 : decode cX8_go 114 = .ok (.goto (-21), 3) := by decide +kernel
theorem dX8_go_117 : decode cX8_go 117 = .ok (.aload_n 0, 1) := by decide +kernel
theorem dX8_go_118 : decode cX8_go 118 = .ok (.iload_n 1, 1) := by decide +kernel
theorem dX8_go_119 : decode cX8_go 119 = .ok (.ifCond .eq 7, 3) := by decide +kernel
theorem dX8_go_122 : decode cX8_go 122 = .ok (.iconst 4, 1) := by decide +kernel
theorem dX8_go_123 : decode cX8_go 123 = .ok (.goto 4, 3) := by decide +kernel
theorem dX8_go_126 : decode cX8_go 126 = .ok (.iconst 1, 1) := by decide +kernel
theorem dX8_go_127 : decode cX8_go 127 = .ok (.putfield 202, 3) := by decide +kernel
theorem dX8_go_130 : decode cX8_go 130 = .ok (.aload_n 0, 1) := by decide +kernel
theorem dX8_go_131 : decode cX8_go 131 = .ok (.aload_n 0, 1) := by decide +kernel
theorem dX8_go_132 : decode cX8_go 132 = .ok (.getfield 26, 3) := by decide +kernel
theorem dX8_go_135 : decode cX8_go 135 = .ok (.aload_n 0, 1) := by decide +kernel
theorem dX8_go_136 : decode cX8_go 136 = .ok (.getfield 196, 3) := by decide +kernel
theorem dX8_go_139 : decode cX8_go 139 = .ok (.iaload, 1) := by decide +kernel
theorem dX8_go_140 : decode cX8_go 140 = .ok (.putfield 208, 3) := by decide +kernel
theorem dX8_go_143 : decode cX8_go 143 = .ok (.aload_n 0, 1) := by decide +kernel
theorem dX8_go_144 : decode cX8_go 144 = .ok (.aload_n 0, 1) := by decide +kernel
theorem dX8_go_145 : decode cX8_go 145 = .ok (.getfield 193, 3) := by decide +kernel
theorem dX8_go_148 : decode cX8_go 148 = .ok (.putfield 199, 3) := by decide +kernel
theorem dX8_go_151 : decode cX8_go 151 = .ok (.goto 152, 3) := by decide +kernel
theorem dX8_go_154 : decode cX8_go 154 = .ok (.aload_n 0, 1) := by decide +kernel
theorem dX8_go_155 : decode cX8_go 155 = .ok (.aload_n 0, 1) := by decide +kernel
theorem dX8_go_156 : decode cX8_go 156 = .ok (.getfield 196, 3) := by decide +kernel
theorem dX8_go_159 : decode cX8_go 159 = .ok (.invokevirtual 211, 3) := by decide +kernel
theorem dX8_go_162 : decode cX8_go 162 = .ok (.ifCond .eq 113, 3) := by decide +kernel
theorem dX8_go_165 : decode cX8_go 165 = .ok (.aload_n 0, 1) := by decide +kernel
theorem dX8_go_166 : decode cX8_go 166 = .ok (.iconst 0, 1) := by decide +kernel
theorem dX8_go_167 : decode cX8_go 167 = .ok (.putfield 208, 3) := by decide +kernel
theorem dX8_go_170 : decode cX8_go 170 = .ok (.aload_n 0, 1) := by decide +kernel
theorem dX8_go_171 : decode cX8_go 171 = .ok (.aload_n 0, 1) := by decide +kernel
theorem dX8_go_172 : decode cX8_go 172 = .ok (.getfield 193, 3) := by decide +kernel
theorem dX8_go_175 : decode cX8_go 175 = .ok (.invokevirtual 211, 3) := by decide +kernel
theorem dX8_go_178 : decode cX8_go 178 = .ok (.ifCond .eq 60, 3) := by decide +kernel
theorem dX8_go_181 : decode cX8_go 181 = .ok (.aload_n 0, 1) := by decide +kernel
theorem dX8_go_182 : decode cX8_go 182 = .ok (.aload_n 0, 1) := by decide +kernel
theorem dX8_go_183 : decode cX8_go 183 = .ok (.getfield 193, 3) := by decide +kernel
theorem dX8_go_186 : decode cX8_go 186 = .ok (.aload_n 0, 1) := by decide +kernel
theorem dX8_go_187 : decode cX8_go 187 = .ok (.getfield 196, 3) := by decide +kernel
theorem dX8_go_190 : decode cX8_go 190 = .ok (.isub, 1) := by decide +kernel
theorem dX8_go_191 : decode cX8_go 191 = .ok (.iconst 4, 1) := by decide +kernel
theorem dX8_go_192 : decode cX8_go 192 = .ok (.if_icmp .ge 26, 3) := by decide +kernel
theorem dX8_go_195 : decode cX8_go 195 = .ok (.bipush 10, 2) := by decide +kernel
theorem dX8_go_197 : decode cX8_go 197 = .ok (.aload_n 0, 1) := by decide +kernel
theorem dX8_go_198 : decode cX8_go 198 = .ok (.getfield 208, 3) := by decide +kernel
theorem dX8_go_201 : decode cX8_go 201 = .ok (.imul, 1) := by decide +kernel
theorem dX8_go_202 : decode cX8_go 202 = .ok (.aload_n 0, 1) := by decide +kernel
theorem dX8_go_203 : decode cX8_go 203 = .ok (.getfield 26, 3) := by decide +kernel
theorem dX8_go_206 : decode cX8_go 206 = .ok (.aload_n 0, 1) := by decide +kernel
theorem dX8_go_207 : decode cX8_go 207 = .ok (.getfield 193, 3) := by decide +kernel
theorem dX8_go_210 : decode cX8_go 210 = .ok (.iaload, 1) := by decide +kernel
theorem dX8_go_211 : decode cX8_go 211 = .ok (.iadd, 1) := by decide +kernel
theorem dX8_go_212 : decode cX8_go 212 = .ok (.bipush 48, 2) := by decide +kernel
theorem dX8_go_214 : decode cX8_go 214 = .ok (.isub, 1) := by decide +kernel
theorem dX8_go_215 : decode cX8_go 215 = .ok (.goto 7, 3) := by decide +kernel
theorem dX8_go_218 : decode cX8_go 218 = .ok (.aload_n 0, 1) := by decide +kernel
theorem dX8_go_219 : decode cX8_go 219 = .ok (.getfield 208, 3) := by decide +kernel
theorem dX8_go_222 : decode cX8_go 222 = .ok (.putfield 208, 3) := by decide +kernel
theorem dX8_go_225 : decode cX8_go 225 = .ok (.aload_n 0, 1) := by decide +kernel
theorem dX8_go_226 : decode cX8_go 226 = .ok (.dup, 1) := by decide +kernel
theorem dX8_go_227 : decode cX8_go 227 = .ok (.getfield 193, 3) := by decide +kernel
theorem dX8_go_230 : decode cX8_go 230 = .ok (.iconst 1, 1) := by decide +kernel
theorem dX8_go_231 : decode cX8_go 231 = .ok (.iadd, 1) := by decide +kernel
theorem dX8_go_232 : decode cX8_go 232 = .ok (.putfield 193, 3) := by decide +kernel
theorem dX8_go_235 : decode cX8_go 235 = .ok (.goto (-65), 3) := by decide +kernel
theorem dX8_go_238 : decode cX8_go 238 = .ok (.aload_n 0, 1) := by decide +kernel
theorem dX8_go_239 : decode cX8_go 239 = .ok (.iload_n 1, 1) := by decide +kernel
theorem dX8_go_240 : decode cX8_go 240 = .ok (.ifCond .ne 16, 3) := by decide +kernel
theorem dX8_go_243 : decode cX8_go 243 = .ok (.aload_n 0, 1) := by decide +kernel
theorem dX8_go_244 : decode cX8_go 244 = .ok (.getfield 193, 3) := by decide +kernel
theorem dX8_go_247 : decode cX8_go 247 = .ok (.aload_n 0, 1) := by decide +kernel
theorem dX8_go_248 : decode cX8_go 248 = .ok (.getfield 196, 3) := by decide +kernel
theorem dX8_go_251 : decode cX8_go 251 = .ok (.isub, 1) := by decide +kernel
theorem dX8_go_252 : decode cX8_go 252 = .ok (.iconst 4, 1) := by decide +kernel
theorem dX8_go_253 : decode cX8_go 253 = .ok (.if_icmp .le 7, 3) := by decide +kernel
theorem dX8_go_256 : decode cX8_go 256 = .ok (.iconst 4, 1) := by decide +kernel
theorem dX8_go_257 : decode cX8_go 257 = .ok (.goto 4, 3) := by decide +kernel
theorem dX8_go_260 : decode cX8_go 260 = .ok (.iconst 2, 1) := by decide +kernel
theorem dX8_go_261 : decode cX8_go 261 = .ok (.putfield 202, 3) := by decide +kernel
theorem dX8_go_264 : decode cX8_go 264 = .ok (.aload_n 0, 1) := by decide +kernel
theorem dX8_go_265 : decode cX8_go 265 = .ok (.aload_n 0, 1) := by decide +kernel
theorem dX8_go_266 : decode cX8_go 266 = .ok (.getfield 193, 3) := by decide +kernel
theorem dX8_go_269 : decode cX8_go 269 = .ok (.putfield 199, 3) := by decide +kernel
theorem dX8_go_272 : decode cX8_go 272 = .ok (.goto 31, 3) := by decide +kernel
theorem dX8_go_275 : decode cX8_go 275 = .ok (.aload_n 0, 1) := by decide +kernel
theorem dX8_go_276 : decode cX8_go 276 = .ok (.iconst 3, 1) := by decide +kernel
theorem dX8_go_277 : decode cX8_go 277 = .ok (.putfield 202, 3) := by decide +kernel
theorem dX8_go_280 : decode cX8_go 280 = .ok (.aload_n 0, 1) := by decide +kernel
theorem dX8_go_281 : decode cX8_go 281 = .ok (.aload_n 0, 1) := by decide +kernel
theorem dX8_go_282 : decode cX8_go 282 = .ok (.getfield 26, 3) := by decide +kernel
theorem dX8_go_285 : decode cX8_go 285 = .ok (.aload_n 0, 1) := by decide +kernel
theorem dX8_go_286 : decode cX8_go 286 = .ok (.getfield 196, 3) := by decide +kernel
theorem dX8_go_289 : decode cX8_go 289 = .ok (.iaload, 1) := by decide +kernel
theorem dX8_go_290 : decode cX8_go 290 = .ok (.putfield 208, 3) := by decide +kernel
theorem dX8_go_293 : decode cX8_go 293 = .ok (.aload_n 0, 1) := by decide +kernel
theorem dX8_go_294 : decode cX8_go 294 = .ok (.dup, 1) := by decide +kernel
theorem dX8_go_295 : decode cX8_go 295 = .ok (.getfield 193, 3) := by decide +kernel
theorem dX8_go_298 : decode cX8_go 298 = .ok (.iconst 1, 1) := by decide +kernel
theorem dX8_go_299 : decode cX8_go 299 = .ok (.iadd, 1) := by decide +kernel
theorem dX8_go_300 : decode cX8_go 300 = .ok (.putfield 193, 3) := by decide +kernel
theorem dX8_go_303 : decode cX8_go 303 = .ok (.return_, 1) := by decide +kernel
theorem dX8_takesKey_0 : decode cX8_takesKey 0 = .ok (.aload_n 0, 1) := by decide +kernel
theorem dX8_takesKey_1 : decode cX8_takesKey 1 = .ok (.getfield 202, 3) := by decide +kernel
theorem dX8_takesKey_4 : decode cX8_takesKey 4 = .ok (.iconst 1, 1) := by decide +kernel
theorem dX8_takesKey_5 : decode cX8_takesKey 5 = .ok (.if_icmp .eq 5, 3) := by decide +kernel
theorem dX8_takesKey_8 : decode cX8_takesKey 8 = .ok (.iconst 0, 1) := by decide +kernel
theorem dX8_takesKey_9 : decode cX8_takesKey 9 = .ok (.ireturn, 1) := by decide +kernel
theorem dX8_takesKey_10 : decode cX8_takesKey 10 = .ok (.iconst 0, 1) := by decide +kernel
theorem dX8_takesKey_11 : decode cX8_takesKey 11 = .ok (.istore_n 1, 1) := by decide +kernel
theorem dX8_takesKey_12 : decode cX8_takesKey 12 = .ok (.iload_n 1, 1) := by decide +kernel
theorem dX8_takesKey_13 : decode cX8_takesKey 13 = .ok (.iconst 3, 1) := by decide +kernel
theorem dX8_takesKey_14 : decode cX8_takesKey 14 = .ok (.if_icmp .ge 113, 3) := by decide +kernel
theorem dX8_takesKey_17 : decode cX8_takesKey 17 = .ok (.aload_n 0, 1) := by decide +kernel
theorem dX8_takesKey_18 : decode cX8_takesKey 18 = .ok (.getfield 33, 3) := by decide +kernel
theorem dX8_takesKey_21 : decode cX8_takesKey 21 = .ok (.iload_n 1, 1) := by decide +kernel
theorem dX8_takesKey_22 : decode cX8_takesKey 22 = .ok (.iconst 1, 1) := by decide +kernel
theorem dX8_takesKey_23 : decode cX8_takesKey 23 = .ok (.iadd, 1) := by decide +kernel
theorem dX8_takesKey_24 : decode cX8_takesKey 24 = .ok (.iaload, 1) := by decide +kernel
theorem dX8_takesKey_25 : decode cX8_takesKey 25 = .ok (.aload_n 0, 1) := by decide +kernel
theorem dX8_takesKey_26 : decode cX8_takesKey 26 = .ok (.getfield 33, 3) := by decide +kernel
theorem dX8_takesKey_29 : decode cX8_takesKey 29 = .ok (.iload_n 1, 1) := by decide +kernel
theorem dX8_takesKey_30 : decode cX8_takesKey 30 = .ok (.iaload, 1) := by decide +kernel
theorem dX8_takesKey_31 : decode cX8_takesKey 31 = .ok (.isub, 1) := by decide +kernel
theorem dX8_takesKey_32 : decode cX8_takesKey 32 = .ok (.istore_n 2, 1) := by decide +kernel
theorem dX8_takesKey_33 : decode cX8_takesKey 33 = .ok (.iload_n 2, 1) := by decide +kernel
theorem dX8_takesKey_34 : decode cX8_takesKey 34 = .ok (.aload_n 0, 1) := by decide +kernel
theorem dX8_takesKey_35 : decode cX8_takesKey 35 = .ok (.getfield 193, 3) := by decide +kernel
theorem dX8_takesKey_38 : decode cX8_takesKey 38 = .ok (.aload_n 0, 1) := by decide +kernel
theorem dX8_takesKey_39 : decode cX8_takesKey 39 = .ok (.getfield 196, 3) := by decide +kernel
theorem dX8_takesKey_42 : decode cX8_takesKey 42 = .ok (.isub, 1) := by decide +kernel
theorem dX8_takesKey_43 : decode cX8_takesKey 43 = .ok (.if_icmp .ne 7, 3) := by decide +kernel
theorem dX8_takesKey_46 : decode cX8_takesKey 46 = .ok (.iconst 1, 1) := by decide +kernel
theorem dX8_takesKey_47 : decode cX8_takesKey 47 = .ok (.goto 4, 3) := by decide +kernel
theorem dX8_takesKey_50 : decode cX8_takesKey 50 = .ok (.iconst 0, 1) := by decide +kernel
theorem dX8_takesKey_51 : decode cX8_takesKey 51 = .ok (.istore_n 3, 1) := by decide +kernel
theorem dX8_takesKey_52 : decode cX8_takesKey 52 = .ok (.iconst 0, 1) := by decide +kernel
theorem dX8_takesKey_53 : decode cX8_takesKey 53 = .ok (.istore 4, 2) := by decide +kernel
theorem dX8_takesKey_55 : decode cX8_takesKey 55 = .ok (.iload 4, 2) := by decide +kernel
theorem dX8_takesKey_57 : decode cX8_takesKey 57 = .ok (.iload_n 2, 1) := by decide +kernel
theorem dX8_takesKey_58 : decode cX8_takesKey 58 = .ok (.if_icmp .ge 48, 3) := by decide +kernel
theorem dX8_takesKey_61 : decode cX8_takesKey 61 = .ok (.iload_n 3, 1) := by decide +kernel
theorem dX8_takesKey_62 : decode cX8_takesKey 62 = .ok (.ifCond .eq 44, 3) := by decide +kernel
theorem dX8_takesKey_65 : decode cX8_takesKey 65 = .ok (.aload_n 0, 1) := by decide +kernel
theorem dX8_takesKey_66 : decode cX8_takesKey 66 = .ok (.getfield 26, 3) := by decide +kernel
theorem dX8_takesKey_69 : decode cX8_takesKey 69 = .ok (.aload_n 0, 1) := by decide +kernel
theorem dX8_takesKey_70 : decode cX8_takesKey 70 = .ok (.getfield 196, 3) := by decide +kernel
theorem dX8_takesKey_73 : decode cX8_takesKey 73 = .ok (.iload 4, 2) := by decide +kernel
theorem dX8_takesKey_75 : decode cX8_takesKey 75 = .ok (.iadd, 1) := by decide +kernel
theorem dX8_takesKey_76 : decode cX8_takesKey 76 = .ok (.iaload, 1) := by decide +kernel
theorem dX8_takesKey_77 : decode cX8_takesKey 77 = .ok (.aload_n 0, 1) := by decide +kernel
theorem dX8_takesKey_78 : decode cX8_takesKey 78 = .ok (.getfield 29, 3) := by decide +kernel
theorem dX8_takesKey_81 : decode cX8_takesKey 81 = .ok (.aload_n 0, 1) := by decide +kernel
theorem dX8_takesKey_82 : decode cX8_takesKey 82 = .ok (.getfield 33, 3) := by decide +kernel
theorem dX8_takesKey_85 : decode cX8_takesKey 85 = .ok (.iload_n 1, 1) := by decide +kernel
theorem dX8_takesKey_86 : decode cX8_takesKey 86 = .ok (.iaload, 1) := by decide +kernel
theorem dX8_takesKey_87 : decode cX8_takesKey 87 = .ok (.iload 4, 2) := by decide +kernel
theorem dX8_takesKey_89 : decode cX8_takesKey 89 = .ok (.iadd, 1) := by decide +kernel
theorem dX8_takesKey_90 : decode cX8_takesKey 90 = .ok (.caload, 1) := by decide +kernel
theorem dX8_takesKey_91 : decode cX8_takesKey 91 = .ok (.if_icmp .ne 7, 3) := by decide +kernel
theorem dX8_takesKey_94 : decode cX8_takesKey 94 = .ok (.iconst 1, 1) := by decide +kernel
theorem dX8_takesKey_95 : decode cX8_takesKey 95 = .ok (.goto 4, 3) := by decide +kernel
theorem dX8_takesKey_98 : decode cX8_takesKey 98 = .ok (.iconst 0, 1) := by decide +kernel
theorem dX8_takesKey_99 : decode cX8_takesKey 99 = .ok (.istore_n 3, 1) := by decide +kernel
theorem dX8_takesKey_100 : decode cX8_takesKey 100 = .ok (.iinc 4 1, 3) := by decide +kernel
theorem dX8_takesKey_103 : decode cX8_takesKey 103 = .ok (.goto (-48), 3) := by decide +kernel
theorem dX8_takesKey_106 : decode cX8_takesKey 106 = .ok (.iload_n 3, 1) := by decide +kernel
theorem dX8_takesKey_107 : decode cX8_takesKey 107 = .ok (.ifCond .eq 14, 3) := by decide +kernel
theorem dX8_takesKey_110 : decode cX8_takesKey 110 = .ok (.aload_n 0, 1) := by decide +kernel
theorem dX8_takesKey_111 : decode cX8_takesKey 111 = .ok (.iload_n 1, 1) := by decide +kernel
theorem dX8_takesKey_112 : decode cX8_takesKey 112 = .ok (.putfield 214, 3) := by decide +kernel
theorem dX8_takesKey_115 : decode cX8_takesKey 115 = .ok (.aload_n 0, 1) := by decide +kernel
theorem dX8_takesKey_116 : decode cX8_takesKey 116 = .ok (.invokevirtual 217, 3) := by decide +kernel
theorem dX8_takesKey_119 : decode cX8_takesKey 119 = .ok (.iconst 1, 1) := by decide +kernel
theorem dX8_takesKey_120 : decode cX8_takesKey 120 = .ok (.ireturn, 1) := by decide +kernel
theorem dX8_takesKey_121 : decode cX8_takesKey 121 = .ok (.iinc 1 1, 3) := by decide +kernel
theorem dX8_takesKey_124 : decode cX8_takesKey 124 = .ok (.goto (-112), 3) := by decide +kernel
theorem dX8_takesKey_127 : decode cX8_takesKey 127 = .ok (.iconst 0, 1) := by decide +kernel
theorem dX8_takesKey_128 : decode cX8_takesKey 128 = .ok (.ireturn, 1) := by decide +kernel
theorem dX8_nameOf_0 : decode cX8_nameOf 0 = .ok (.aload_n 0, 1) := by decide +kernel
theorem dX8_nameOf_1 : decode cX8_nameOf 1 = .ok (.getfield 214, 3) := by decide +kernel
theorem dX8_nameOf_4 : decode cX8_nameOf 4 = .ok (.lookupswitch 82 #[(0, 28), (1, 60)], 28) := by decide +kernel
theorem dX8_nameOf_32 : decode cX8_nameOf 32 = .ok (.iload_n 1, 1) := by decide +kernel
theorem dX8_nameOf_33 : decode cX8_nameOf 33 = .ok (.bipush 114, 2) := by decide +kernel
theorem dX8_nameOf_35 : decode cX8_nameOf 35 = .ok (.if_icmp .ne 7, 3) := by decide +kernel
theorem dX8_nameOf_38 : decode cX8_nameOf 38 = .ok (.iconst 0, 1) := by decide +kernel
theorem dX8_nameOf_39 : decode cX8_nameOf 39 = .ok (.goto 24, 3) := by decide +kernel
theorem dX8_nameOf_42 : decode cX8_nameOf 42 = .ok (.iload_n 1, 1) := by decide +kernel
theorem dX8_nameOf_43 : decode cX8_nameOf 43 = .ok (.bipush 100, 2) := by decide +kernel
theorem dX8_nameOf_45 : decode cX8_nameOf 45 = .ok (.if_icmp .ne 7, 3) := by decide +kernel
theorem dX8_nameOf_48 : decode cX8_nameOf 48 = .ok (.iconst 1, 1) := by decide +kernel
theorem dX8_nameOf_49 : decode cX8_nameOf 49 = .ok (.goto 14, 3) := by decide +kernel
theorem dX8_nameOf_52 : decode cX8_nameOf 52 = .ok (.iload_n 1, 1) := by decide +kernel
theorem dX8_nameOf_53 : decode cX8_nameOf 53 = .ok (.bipush 112, 2) := by decide +kernel
theorem dX8_nameOf_55 : decode cX8_nameOf 55 = .ok (.if_icmp .ne 7, 3) := by decide +kernel
theorem dX8_nameOf_58 : decode cX8_nameOf 58 = .ok (.iconst 2, 1) := by decide +kernel
theorem dX8_nameOf_59 : decode cX8_nameOf 59 = .ok (.goto 4, 3) := by decide +kernel
theorem dX8_nameOf_62 : decode cX8_nameOf 62 = .ok (.iconst (-1), 1) := by decide +kernel
theorem dX8_nameOf_63 : decode cX8_nameOf 63 = .ok (.ireturn, 1) := by decide +kernel
theorem dX8_nameOf_64 : decode cX8_nameOf 64 = .ok (.iload_n 1, 1) := by decide +kernel
theorem dX8_nameOf_65 : decode cX8_nameOf 65 = .ok (.bipush 108, 2) := by decide +kernel
theorem dX8_nameOf_67 : decode cX8_nameOf 67 = .ok (.if_icmp .ne 7, 3) := by decide +kernel
theorem dX8_nameOf_70 : decode cX8_nameOf 70 = .ok (.iconst 0, 1) := by decide +kernel
theorem dX8_nameOf_71 : decode cX8_nameOf 71 = .ok (.goto 14, 3) := by decide +kernel
theorem dX8_nameOf_74 : decode cX8_nameOf 74 = .ok (.iload_n 1, 1) := by decide +kernel
theorem dX8_nameOf_75 : decode cX8_nameOf 75 = .ok (.bipush 115, 2) := by decide +kernel
theorem dX8_nameOf_77 : decode cX8_nameOf 77 = .ok (.if_icmp .ne 7, 3) := by decide +kernel
theorem dX8_nameOf_80 : decode cX8_nameOf 80 = .ok (.iconst 1, 1) := by decide +kernel
theorem dX8_nameOf_81 : decode cX8_nameOf 81 = .ok (.goto 4, 3) := by decide +kernel
theorem dX8_nameOf_84 : decode cX8_nameOf 84 = .ok (.iconst (-1), 1) := by decide +kernel
theorem dX8_nameOf_85 : decode cX8_nameOf 85 = .ok (.ireturn, 1) := by decide +kernel
theorem dX8_nameOf_86 : decode cX8_nameOf 86 = .ok (.iload_n 1, 1) := by decide +kernel
theorem dX8_nameOf_87 : decode cX8_nameOf 87 = .ok (.bipush 112, 2) := by decide +kernel
theorem dX8_nameOf_89 : decode cX8_nameOf 89 = .ok (.if_icmp .ne 7, 3) := by decide +kernel
theorem dX8_nameOf_92 : decode cX8_nameOf 92 = .ok (.iconst 0, 1) := by decide +kernel
theorem dX8_nameOf_93 : decode cX8_nameOf 93 = .ok (.goto 14, 3) := by decide +kernel
theorem dX8_nameOf_96 : decode cX8_nameOf 96 = .ok (.iload_n 1, 1) := by decide +kernel
theorem dX8_nameOf_97 : decode cX8_nameOf 97 = .ok (.bipush 100, 2) := by decide +kernel
theorem dX8_nameOf_99 : decode cX8_nameOf 99 = .ok (.if_icmp .ne 7, 3) := by decide +kernel
theorem dX8_nameOf_102 : decode cX8_nameOf 102 = .ok (.iconst 1, 1) := by decide +kernel
theorem dX8_nameOf_103 : decode cX8_nameOf 103 = .ok (.goto 4, 3) := by decide +kernel
theorem dX8_nameOf_106 : decode cX8_nameOf 106 = .ok (.iconst (-1), 1) := by decide +kernel
theorem dX8_nameOf_107 : decode cX8_nameOf 107 = .ok (.ireturn, 1) := by decide +kernel
theorem dX8_rank_0 : decode cX8_rank 0 = .ok (.iload_n 0, 1) := by decide +kernel
theorem dX8_rank_1 : decode cX8_rank 1 = .ok (.iconst (-1), 1) := by decide +kernel
theorem dX8_rank_2 : decode cX8_rank 2 = .ok (.if_icmp .ne 7, 3) := by decide +kernel
theorem dX8_rank_5 : decode cX8_rank 5 = .ok (.iconst 1, 1) := by decide +kernel
theorem dX8_rank_6 : decode cX8_rank 6 = .ok (.goto 45, 3) := by decide +kernel
theorem dX8_rank_9 : decode cX8_rank 9 = .ok (.iload_n 0, 1) := by decide +kernel
theorem dX8_rank_10 : decode cX8_rank 10 = .ok (.bipush (-2), 2) := by decide +kernel
theorem dX8_rank_12 : decode cX8_rank 12 = .ok (.if_icmp .ne 7, 3) := by decide +kernel
theorem dX8_rank_15 : decode cX8_rank 15 = .ok (.iconst 2, 1) := by decide +kernel
theorem dX8_rank_16 : decode cX8_rank 16 = .ok (.goto 35, 3) := by decide +kernel
theorem dX8_rank_19 : decode cX8_rank 19 = .ok (.iload_n 0, 1) := by decide +kernel
theorem dX8_rank_20 : decode cX8_rank 20 = .ok (.bipush (-5), 2) := by decide +kernel
theorem dX8_rank_22 : decode cX8_rank 22 = .ok (.if_icmp .lt 7, 3) := by decide +kernel
theorem dX8_rank_25 : decode cX8_rank 25 = .ok (.iconst 3, 1) := by decide +kernel
theorem dX8_rank_26 : decode cX8_rank 26 = .ok (.goto 25, 3) := by decide +kernel
theorem dX8_rank_29 : decode cX8_rank 29 = .ok (.iload_n 0, 1) := by decide +kernel
theorem dX8_rank_30 : decode cX8_rank 30 = .ok (.bipush (-7), 2) := by decide +kernel
theorem dX8_rank_32 : decode cX8_rank 32 = .ok (.if_icmp .lt 7, 3) := by decide +kernel
theorem dX8_rank_35 : decode cX8_rank 35 = .ok (.iconst 4, 1) := by decide +kernel
theorem dX8_rank_36 : decode cX8_rank 36 = .ok (.goto 15, 3) := by decide +kernel
theorem dX8_rank_39 : decode cX8_rank 39 = .ok (.iload_n 0, 1) := by decide +kernel
theorem dX8_rank_40 : decode cX8_rank 40 = .ok (.bipush (-9), 2) := by decide +kernel
theorem dX8_rank_42 : decode cX8_rank 42 = .ok (.if_icmp .lt 7, 3) := by decide +kernel
theorem dX8_rank_45 : decode cX8_rank 45 = .ok (.iconst 5, 1) := by decide +kernel
theorem dX8_rank_46 : decode cX8_rank 46 = .ok (.goto 5, 3) := by decide +kernel
theorem dX8_rank_49 : decode cX8_rank 49 = .ok (.bipush 6, 2) := by decide +kernel
theorem dX8_rank_51 : decode cX8_rank 51 = .ok (.ireturn, 1) := by decide +kernel
theorem dX8_settle_0 : decode cX8_settle 0 = .ok (.aload_n 0, 1) := by decide +kernel
theorem dX8_settle_1 : decode cX8_settle 1 = .ok (.getfield 220, 3) := by decide +kernel
theorem dX8_settle_4 : decode cX8_settle 4 = .ok (.ifCond .le 78, 3) := by decide +kernel
theorem dX8_settle_7 : decode cX8_settle 7 = .ok (.aload_n 0, 1) := by decide +kernel
theorem dX8_settle_8 : decode cX8_settle 8 = .ok (.getfield 39, 3) := by decide +kernel
theorem dX8_settle_11 : decode cX8_settle 11 = .ok (.aload_n 0, 1) := by decide +kernel
theorem dX8_settle_12 : decode cX8_settle 12 = .ok (.getfield 220, 3) := by decide +kernel
theorem dX8_settle_15 : decode cX8_settle 15 = .ok (.iconst 1, 1) := by decide +kernel
theorem dX8_settle_16 : decode cX8_settle 16 = .ok (.isub, 1) := by decide +kernel
theorem dX8_settle_17 : decode cX8_settle 17 = .ok (.iaload, 1) := by decide +kernel
theorem dX8_settle_18 : decode cX8_settle 18 = .ok (.bipush (-11), 2) := by decide +kernel
theorem dX8_settle_20 : decode cX8_settle 20 = .ok (.if_icmp .eq 62, 3) := by decide +kernel
theorem dX8_settle_23 : decode cX8_settle 23 = .ok (.aload_n 0, 1) := by decide +kernel
theorem dX8_settle_24 : decode cX8_settle 24 = .ok (.getfield 39, 3) := by decide +kernel
